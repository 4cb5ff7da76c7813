import java.util.Random;

/** One object used again and again answers as a new one that has read the same TEXT: no call leaves what a later one sees, but as said. */
final class AgainTest {
    private static final Random RANDOM = new Random(8);
    private static final int TYPES = 2;

    private static int used;

    private AgainTest() {
    }

    public static void main(String[] args) {
        defaultsBeforeNone();
        namesOfAnotherText();
        longBeforeShort();
        extensionsBeforeNone();
        fullBeforeEmpty();
        for (int seed = 1; seed <= 150; seed++) {
            atRandom(seed);
        }
        Kit.due("calls were asked", used > 2000, true);
        Kit.finish();
    }

    private static void reads(SyntaxForge forge, String assignments, int types) {
        Kit.due(assignments, Kit.read(forge, "M DEFINITIONS ::= BEGIN " + assignments + " END"), Integer.toString(types));
    }

    private static void defaultsBeforeNone() {
        Kit.sentence("Promise 4: The TAPE is the TEXT from now on.");
        SyntaxForge forge = new SyntaxForge();
        reads(forge, "A ::= SEQUENCE {a INTEGER DEFAULT 5, b BOOLEAN DEFAULT TRUE}", 1);
        Kit.due("both are DEFAULTS", Kit.encode(forge, 0, 1, "{a 5, b TRUE}"), "00");
        Kit.due("both are DEFAULTS", Kit.encode(forge, 0, 0, "{a 5, b TRUE}"), "3000");
        reads(forge, "A ::= SEQUENCE {a INTEGER OPTIONAL, b BOOLEAN OPTIONAL}", 1);
        Kit.due("none is", Kit.encode(forge, 0, 1, "{a 5, b TRUE}"), "c04160");
        Kit.due("none is", Kit.decode(forge, 0, 1, Kit.hex("c04160")), "{a 5, b TRUE}");
        Kit.due("none is", Kit.encode(forge, 0, 0, "{a 5, b TRUE}"), "30060201050101ff");
        reads(forge, "A ::= SEQUENCE {a INTEGER DEFAULT 6}", 1);
        Kit.due("another one", Kit.encode(forge, 0, 1, "{a 5}"), "808280");
        Kit.due("another one", Kit.encode(forge, 0, 1, "{a 6}"), "00");
    }

    private static void namesOfAnotherText() {
        Kit.sentence("Promise 4: The TAPE is the TEXT from now on.");
        SyntaxForge forge = new SyntaxForge();
        reads(forge, "A ::= ENUMERATED {a, b, c}", 1);
        Kit.due("b", Kit.encode(forge, 0, 0, "b"), "0a0101");
        reads(forge, "B ::= ENUMERATED {c, b}", 1);
        Kit.due("c", Kit.encode(forge, 0, 0, "c"), "0a0100");
        Kit.due("no a", Kit.encode(forge, 0, 0, "a"), Bench.NONE + "@0");
        Kit.due("unsound", Kit.read(forge, "M DEFINITIONS ::= BEGIN A ::= ENUMERATED {d, e, f, c} C ::= A B ::= D END"), Bench.UNSOUND);
        Kit.due("b", Kit.decode(forge, 0, 0, Kit.hex("0a0101")), "b");
        Kit.due("no d", Kit.encode(forge, 0, 0, "d"), Bench.NONE + "@0");
        Kit.due("A is not assigned", Kit.read(forge, "M DEFINITIONS ::= BEGIN B ::= A END"), Bench.UNSOUND);
        Kit.due("A is not assigned twice", Kit.read(forge, "M DEFINITIONS ::= BEGIN B ::= A A ::= NULL END"), "2");
    }

    private static void longBeforeShort() {
        Kit.sentence("THE RESULT is its bytes");
        SyntaxForge forge = new SyntaxForge();
        reads(forge, "A ::= OCTET STRING B ::= SEQUENCE OF INTEGER C ::= BOOLEAN", 3);
        String bytes = "FF".repeat(300);
        Kit.due("long", Kit.encode(forge, 0, 0, "'" + bytes + "'H"), "0482012c" + "ff".repeat(300));
        Kit.due("short", Kit.encode(forge, 0, 0, "''H"), "0400");
        Kit.due("long", Kit.encode(forge, 0, 1, "'" + bytes + "'H"), "812c" + "ff".repeat(300));
        Kit.due("short", Kit.encode(forge, 2, 1, "FALSE"), "00");
        Kit.due("short", Kit.encode(forge, 0, 1, "'00'H"), "0100");
        Kit.due("long", Kit.decode(forge, 0, 1, Kit.hex("812c" + "ff".repeat(300))), "'" + bytes + "'H");
        Kit.due("short", Kit.decode(forge, 1, 2, Kit.hex("30800000")), "{}");
        Kit.due("what lay behind is not read", Kit.decode(forge, 0, 2, Kit.hex("0405ff")), Bench.NONE);
        Kit.due("what lay behind is not read", Kit.decode(forge, 0, 1, Kit.hex("05ff")), Bench.NONE);
        Kit.due("short", Kit.encode(forge, 1, 0, "{1}"), "3003020101");
    }

    private static void extensionsBeforeNone() {
        Kit.sentence("more bits than it knows: those are passed over");
        SyntaxForge forge = new SyntaxForge();
        reads(forge, "A ::= SEQUENCE {..., a BOOLEAN}", 1);
        Kit.due("two unknown", Kit.decode(forge, 0, 1, Kit.hex("82e0300020002000")), "{a TRUE}");
        Kit.due("none unknown", Kit.decode(forge, 0, 1, Kit.hex("8080c000")), "{a TRUE}");
        Kit.due("two unknown that are not there", Kit.decode(forge, 0, 1, Kit.hex("8260")), Bench.NONE);
        Kit.due("none unknown", Kit.decode(forge, 0, 1, Kit.hex("8080c000")), "{a TRUE}");
        Kit.due("none there", Kit.decode(forge, 0, 1, Kit.hex("00")), "{}");
    }

    private static void fullBeforeEmpty() {
        Kit.sentence("Promise 6: as soon as the 65537th VALUE is begun: counted anew for each call");
        SyntaxForge forge = new SyntaxForge();
        reads(forge, "A ::= SEQUENCE OF NULL B ::= SEQUENCE OF INTEGER (0)", 2);
        for (int i = 0; i < 3; i++) {
            Kit.due("too many", Kit.decode(forge, 0, 1, Kit.hex("c400")), Bench.LONG);
            Kit.due("two", Kit.decode(forge, 0, 1, Kit.hex("02")), "{NULL, NULL}");
            Kit.due("too many", Kit.decode(forge, 1, 1, Kit.hex("c3bfff")), Bench.LONG);
            Kit.due("three", Kit.decode(forge, 1, 1, Kit.hex("03")), "{0, 0, 0}");
            Kit.due("two", Kit.encode(forge, 0, 0, "{NULL, NULL}"), "300405000500");
        }
    }

    /** TEXTS one behind another on one object, and a new object for each call beside it. */
    private static void atRandom(int seed) {
        Kit.sentence("one object, seed " + seed);
        SyntaxForge forge = new SyntaxForge();
        int calls = 0;
        for (int k = 0; k < 4; k++) {
            Maker maker = new Maker(1000L * seed + k);
            String text = maker.module(TYPES);
            String answer = Kit.read(forge, text);
            calls += text.length() / 20 + 4;
            Kit.due(text, answer, Kit.read(new SyntaxForge(), text));
            if (!answer.equals(Integer.toString(TYPES))) {
                continue;
            }
            for (int i = 0; i < 6 && calls < 400; i++) {
                int t = RANDOM.nextInt(TYPES);
                calls += both(forge, text, t, maker.value(t));
            }
        }
    }

    /** Answers about how many calls that were. */
    private static int both(SyntaxForge forge, String text, int t, String value) {
        int codec = RANDOM.nextInt(2);
        String what = text + "\n" + t + " " + codec + " ";
        String hex = Kit.encode(forge, t, codec, value);
        Kit.due(what + value, hex, Kit.encode(fresh(text), t, codec, value));
        used++;
        if (hex.startsWith("Unsupported") || hex.startsWith("Index")) {
            return value.length() / 20 + 4;
        }
        byte[] bytes = Kit.hex(hex);
        if (RANDOM.nextInt(3) == 0 && bytes.length > 0) {
            bytes[RANDOM.nextInt(bytes.length)] ^= (byte) (1 << RANDOM.nextInt(8));
        }
        int other = codec == 1 ? 1 : 2 * RANDOM.nextInt(2);
        String back = Kit.decode(forge, t, other, bytes);
        Kit.due(what + hex, back, Kit.decode(fresh(text), t, other, bytes));
        used++;
        return value.length() / 20 + bytes.length / 5 + back.length() / 8 + 10;
    }

    private static SyntaxForge fresh(String text) {
        SyntaxForge forge = new SyntaxForge();
        Kit.read(forge, text);
        return forge;
    }
}
