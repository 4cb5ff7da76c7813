import java.nio.charset.StandardCharsets;

/** The example of README.md; ReadmeTest looks whether it stands there as here. */
public final class Example {
    public static void main(String[] args) {
        SyntaxForge forge = new SyntaxForge();
        try {
            forge.encode(0, 0);
        } catch (IllegalStateException e) {
            say("no TEXT; TYPES", forge.count(2));
        }

        // A TEXT comes on the tape and is read; this empties the tape.
        lay(forge, text("M DEFINITIONS ::= BEGIN A ::= SEQUENCE {n INTEGER, b BOOLEAN DEFAULT FALSE} END"));
        say("TYPES", forge.read());
        say("first TAG of A", forge.tag(0));

        // A VALUE of TYPE 0, which is A, is encoded by DER (0) and PER (1).
        lay(forge, text("{n 5, b TRUE}"));
        say("bytes by DER", forge.encode(0, 0));
        byte[] der = result(forge);
        say("they are", hex(der));
        lay(forge, text("{n 5, b TRUE}"));
        say("bytes by PER", forge.encode(0, 1));
        byte[] per = result(forge);
        say("they are", hex(per));

        // Bytes become VALUES again: by DER (0), PER (1) and BER (2).
        lay(forge, der);
        say("length of the VALUE", forge.decode(0, 0));
        say("it is", string(result(forge)));
        lay(forge, per);
        forge.decode(0, 1);
        say("by PER", string(result(forge)));
        lay(forge, new byte[] {0x30, (byte) 0x80, 2, 1, 5, 1, 1, 0, 0, 0});
        forge.decode(0, 2);
        say("by BER, with a DEFAULT that is there", string(result(forge)));

        // What is refused leaves THE RESULT and the TEXT; the tape is empty all the same.
        lay(forge, text("{n 5 b TRUE}"));
        try {
            forge.encode(0, 0);
        } catch (UnsupportedOperationException e) {
            say("SYNTAX is broken at", forge.count(3));
        }
        lay(forge, text("{n TRUE}"));
        try {
            forge.encode(0, 0);
        } catch (UnsupportedOperationException e) {
            say("no INTEGER is at", forge.count(3));
        }
        lay(forge, text("M DEFINITIONS ::= BEGIN A ::= B END"));
        try {
            forge.read();
        } catch (ArithmeticException e) {
            say("not SOUND; PLACE", forge.count(3));
        }
        lay(forge, new byte[] {0x30, 6, 2, 1, 5, 1, 1, 0});
        try {
            forge.decode(0, 0);
        } catch (UnsupportedOperationException e) {
            say("DER has no DEFAULT; bytes on the tape", forge.count(0));
        }
        say("THE RESULT is still", string(result(forge)));
        try {
            forge.word(5);
        } catch (IndexOutOfBoundsException e) {
            say("byte 5 is none of THE RESULT's", forge.count(1));
        }
        try {
            forge.tag(1);
        } catch (IllegalArgumentException e) {
            say("TYPE 1 is none of the TEXT's", forge.count(2));
        }
    }

    /** Puts the bytes on the empty tape: 20 with each feed, and end cuts what the last one has too much. */
    private static void lay(SyntaxForge forge, byte[] bytes) {
        for (int i = 0; i < bytes.length; i += 20) {
            forge.feed(four(bytes, i), four(bytes, i + 4), four(bytes, i + 8), four(bytes, i + 12), four(bytes, i + 16));
        }
        forge.end(bytes.length);
    }

    private static int four(byte[] bytes, int from) {
        int n = 0;
        for (int i = from; i < from + 4; i++) {
            n = n << 8 | (i < bytes.length ? bytes[i] & 255 : 0);
        }
        return n;
    }

    /** Takes the bytes of THE RESULT: eight with each word. */
    private static byte[] result(SyntaxForge forge) {
        byte[] bytes = new byte[forge.count(1)];
        for (int i = 0; i < bytes.length; i += 8) {
            long word = forge.word(i);
            for (int k = i; k < i + 8 && k < bytes.length; k++) {
                bytes[k] = (byte) (word >> 8 * (i + 7 - k));
            }
        }
        return bytes;
    }

    private static byte[] text(String text) {
        return text.getBytes(StandardCharsets.ISO_8859_1);
    }

    private static String string(byte[] bytes) {
        return new String(bytes, StandardCharsets.ISO_8859_1);
    }

    private static String hex(byte[] bytes) {
        StringBuilder digits = new StringBuilder();
        for (byte b : bytes) {
            digits.append(String.format("%02X", b));
        }
        return digits.toString();
    }

    private static void say(String what, Object answer) {
        System.out.println(what + ": " + answer);
    }
}
