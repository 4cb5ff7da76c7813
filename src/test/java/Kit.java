import java.nio.charset.StandardCharsets;

/** What the tests share: feeding a tape, asking a call, and counting wrong answers. */
final class Kit {
    private static int wrong;
    private static int asked;
    private static String sentence = "";

    interface Call {
        long answer();
    }

    private Kit() {
    }

    static byte[] ascii(String text) {
        return text.getBytes(StandardCharsets.ISO_8859_1);
    }

    static byte[] hex(String digits) {
        String plain = digits.replace(" ", "");
        byte[] bytes = new byte[plain.length() / 2];
        for (int i = 0; i < bytes.length; i++) {
            bytes[i] = (byte) Integer.parseInt(plain.substring(2 * i, 2 * i + 2), 16);
        }
        return bytes;
    }

    static String toHex(byte[] bytes) {
        StringBuilder text = new StringBuilder();
        for (byte b : bytes) {
            text.append(String.format("%02x", b & 255));
        }
        return text.toString();
    }

    /** The tape is these bytes alone. */
    static void lay(SyntaxForge forge, byte[] bytes) {
        forge.end(0);
        for (int i = 0; i < bytes.length; i += 20) {
            int[] five = new int[5];
            for (int k = 0; k < 20 && i + k < bytes.length; k++) {
                five[k / 4] |= (bytes[i + k] & 255) << 8 * (3 - k % 4);
            }
            forge.feed(five[0], five[1], five[2], five[3], five[4]);
        }
        forge.end(bytes.length);
    }

    static byte[] result(SyntaxForge forge) {
        byte[] bytes = new byte[forge.count(1)];
        for (int i = 0; i < bytes.length; i += 8) {
            long word = forge.word(i);
            for (int k = i; k < i + 8 && k < bytes.length; k++) {
                bytes[k] = (byte) (word >>> 8 * (i + 7 - k));
            }
        }
        return bytes;
    }

    /** The answer, or the name of what is thrown. */
    static String ask(Call call) {
        try {
            return Long.toString(call.answer());
        } catch (RuntimeException e) {
            return e.getMessage() == null ? e.getClass().getSimpleName() : e.toString();
        }
    }

    /** What is thrown, or nothing; what the machine throws has a message, what the class throws has none. */
    static String thrown(Call call) {
        try {
            call.answer();
            return "";
        } catch (RuntimeException e) {
            return e.getMessage() == null ? e.getClass().getSimpleName() : e.toString();
        }
    }

    static String read(SyntaxForge forge, String text) {
        lay(forge, ascii(text));
        return ask(forge::read);
    }

    /** The bytes in hex, or what is thrown, with the PLACE if one is told. */
    static String encode(SyntaxForge forge, int t, int codec, String value) {
        lay(forge, ascii(value));
        String answer = ask(() -> forge.encode(t, codec));
        if (Character.isDigit(answer.charAt(0))) {
            return toHex(result(forge));
        }
        return forge.count(3) < 0 ? answer : answer + "@" + forge.count(3);
    }

    /** The VALUE, or what is thrown. */
    static String decode(SyntaxForge forge, int t, int codec, byte[] bytes) {
        lay(forge, bytes);
        String answer = ask(() -> forge.decode(t, codec));
        if (Character.isDigit(answer.charAt(0))) {
            return new String(result(forge), StandardCharsets.ISO_8859_1);
        }
        return answer;
    }

    /** The words of the document that the answers from now on hang on; they are printed with a wrong one. */
    static void sentence(String words) {
        sentence = words;
    }

    /** Long texts are cut, so that what is printed can be read. */
    static String shown(Object text) {
        String whole = String.valueOf(text);
        return whole.length() > 240 ? whole.substring(0, 240) + ".. (" + whole.length() + ")" : whole;
    }

    static void due(String what, Object got, Object want) {
        asked++;
        if (!want.equals(got)) {
            wrong++;
            System.out.println(what + ": answered " + shown(got) + ", due is " + shown(want)
                    + (sentence.isEmpty() ? "" : " [" + sentence + "]"));
        }
    }

    static void finish() {
        System.out.println(asked + " answers looked at, " + wrong + " wrong");
        if (wrong != 0) {
            System.exit(1);
        }
    }
}
