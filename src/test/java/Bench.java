/**
 * One TEXT, and for each call a new object that has read it, has a RESULT and has told a PLACE, so that no object
 * comes near its 512th call. Behind each call it is looked at what the call must have left as it was: a call that
 * throws changes nothing, but as said.
 */
final class Bench {
    static final String NONE = "UnsupportedOperationException";
    static final String LONG = "IndexOutOfBoundsException";
    static final String UNSOUND = "ArithmeticException";
    static final String BAD_NUMBER = "IllegalArgumentException";
    static final String NO_TEXT = "IllegalStateException";
    static final int DER = 0;
    static final int PER = 1;
    static final int BER = 2;

    private static final String RESULT_BEFORE = "4703c0ffee";
    private static final int PLACE_BEFORE = 2;
    private static final long TAG_BEFORE = (1L << 40) + 7;
    private static final String BEFORE = "Before ::= [APPLICATION 7] IMPLICIT OCTET STRING";

    private final String text;
    private final int types;

    Bench(String assignments) {
        this("", assignments);
    }

    /** The mode is empty, or such as "IMPLICIT TAGS ". */
    Bench(String mode, String assignments) {
        text = "M DEFINITIONS " + mode + "::= BEGIN " + assignments + " " + BEFORE + " END";
        String answer = Kit.read(new SyntaxForge(), text);
        Kit.due("a SOUND TEXT: " + Kit.shown(assignments), Character.isDigit(answer.charAt(0)), true);
        types = Character.isDigit(answer.charAt(0)) ? Integer.parseInt(answer) : 0;
    }

    /** It has a RESULT, and its latest encode told a PLACE. */
    SyntaxForge ready() {
        SyntaxForge forge = new SyntaxForge();
        Kit.read(forge, text);
        prepare(forge, types - 1);
        return forge;
    }

    private static void prepare(SyntaxForge forge, int t) {
        Kit.due("a RESULT before", Kit.encode(forge, t, DER, "'C0FFEE'H"), RESULT_BEFORE);
        Kit.due("a PLACE before", Kit.encode(forge, t, DER, "  ;"), NONE + "@" + PLACE_BEFORE);
    }

    /** Wanted are bytes in hex, LONG, or NONE@PLACE. */
    void encode(int t, int codec, String value, String want) {
        SyntaxForge forge = ready();
        String what = "encode(" + t + ", " + codec + ") of " + Kit.shown(value);
        Kit.lay(forge, Kit.ascii(value));
        String answer = Kit.ask(() -> forge.encode(t, codec));
        String got = forge.count(3) < 0 ? answer : answer + "@" + forge.count(3);
        boolean refused = want.startsWith(NONE) || want.equals(LONG);
        if (refused) {
            Kit.due(what, got, want);
        } else {
            resultIs(forge, what, got, Kit.hex(want));
        }
        leavesAlone(forge, what, refused);
    }

    /** Of a long RESULT some words are looked at alone, so that the calls stay below 512. */
    private static void resultIs(SyntaxForge forge, String what, String answer, byte[] want) {
        Kit.due(what + " answers how many", answer, Integer.toString(want.length));
        Kit.due(what + ": count(1)", forge.count(1), want.length);
        int words = (want.length + 7) / 8;
        for (int i = 0; i < words; i++) {
            if (words <= 30 || i < 10 || i >= words - 10 || i % (words / 8) == 0) {
                long due = 0;
                for (int k = 8 * i; k < 8 * i + 8; k++) {
                    due = due << 8 | (k < want.length ? want[k] & 255 : 0);
                }
                int at = 8 * i;
                Kit.due(what + ": word(" + at + ")", Kit.ask(() -> forge.word(at)), Long.toString(due));
            }
        }
        Kit.due(what + ": no byte behind", Kit.ask(() -> forge.word(want.length)), LONG);
    }

    /** Wanted is the VALUE as PRINTED, LONG or NONE. */
    void decode(int t, int codec, String hex, String want) {
        SyntaxForge forge = ready();
        String what = "decode(" + t + ", " + codec + ") of " + Kit.shown(hex);
        Kit.lay(forge, Kit.hex(hex));
        String answer = Kit.ask(() -> forge.decode(t, codec));
        boolean refused = want.equals(NONE) || want.equals(LONG);
        if (refused) {
            Kit.due(what, answer, want);
        } else {
            resultIs(forge, what + ", PRINTED as " + Kit.shown(want), answer, Kit.ascii(want));
        }
        leavesAlone(forge, what, refused);
        Kit.due(what + " leaves PLACE", forge.count(3), PLACE_BEFORE);
    }

    private void leavesAlone(SyntaxForge forge, String what, boolean refused) {
        Kit.due(what + " leaves THE TAPE empty", forge.count(0), 0);
        Kit.due(what + " leaves the TYPES", forge.count(2), types);
        Kit.due(what + " leaves the TEXT", Kit.ask(() -> forge.tag(types - 1)), Long.toString(TAG_BEFORE));
        if (refused) {
            Kit.due(what + " leaves THE RESULT", Kit.toHex(Kit.result(forge)), RESULT_BEFORE);
        }
    }

    /** By DER and back, by DER and BER. */
    void der(int t, String value, String hex) {
        encode(t, DER, value, hex);
        decode(t, DER, hex, value);
        decode(t, BER, hex, value);
    }

    /** By PER and back. */
    void per(int t, String value, String hex) {
        encode(t, PER, value, hex);
        decode(t, PER, hex, value);
    }

    /** No VALUE of TYPE t, whatever the codec. */
    void none(int t, String value, int place) {
        encode(t, DER, value, NONE + "@" + place);
        encode(t, PER, value, NONE + "@" + place);
    }

    /** No bytes of TYPE t, by DER nor by BER. */
    void noBer(int t, String hex) {
        decode(t, DER, hex, NONE);
        decode(t, BER, hex, NONE);
    }

    void noPer(int t, String hex) {
        decode(t, PER, hex, NONE);
    }

    /** What DER has otherwise. */
    void onlyBer(int t, String hex, String value) {
        decode(t, DER, hex, NONE);
        decode(t, BER, hex, value);
    }

    /** A whole TEXT; wanted is how many TYPES, UNSOUND, or NONE@PLACE. */
    static void read(String text, String want) {
        SyntaxForge forge = new SyntaxForge();
        Kit.due("the TEXT before", Kit.read(forge, "M DEFINITIONS ::= BEGIN " + BEFORE + " END"), "1");
        prepare(forge, 0);
        String what = "read of " + Kit.shown(text);
        String got = Kit.read(forge, text);
        int place = forge.count(3);
        Kit.due(what, place < 0 ? got : got + "@" + place, want);
        Kit.due(what + " leaves THE TAPE empty", forge.count(0), 0);
        Kit.due(what + " leaves THE RESULT", Kit.toHex(Kit.result(forge)), RESULT_BEFORE);
        boolean refused = want.equals(UNSOUND) || want.startsWith(NONE);
        Kit.due(what + ": TYPES", Integer.toString(forge.count(2)), refused ? "1" : want);
        if (refused) {
            Kit.due(what + ": the TEXT before stays", forge.tag(0), TAG_BEFORE);
            Kit.due(what + ": the TEXT before is used", Kit.encode(forge, 0, DER, "''H"), "4700");
        }
    }

    private static String headed(String mode, String assignments) {
        return "M DEFINITIONS " + mode + "::= BEGIN " + assignments + " END";
    }

    /** The PLACE is told from the first assignment on. */
    static void broken(String assignments, int place) {
        read(headed("", assignments), NONE + "@" + (headed("", "").indexOf(" END") + place));
    }

    static void sound(String assignments) {
        sound("", assignments);
    }

    static void sound(String mode, String assignments) {
        read(headed(mode, assignments), Integer.toString(assignments.split("::=", -1).length - 1));
    }

    static void unsound(String assignments) {
        unsound("", assignments);
    }

    static void unsound(String mode, String assignments) {
        read(headed(mode, assignments), UNSOUND);
    }
}
