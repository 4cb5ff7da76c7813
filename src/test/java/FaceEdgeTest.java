/** The edges of promises 1, 2, 3, 8 and 9, and of what is thrown and in which order, sentence by sentence. */
final class FaceEdgeTest {
    private static final String TEXT = "M DEFINITIONS ::= BEGIN O ::= OCTET STRING N ::= NULL L ::= SEQUENCE OF T0 "
            + "U ::= SEQUENCE OF UTF8String ";
    private static final int[] FAR = {Integer.MIN_VALUE, -1, Integer.MAX_VALUE};

    private FaceEdgeTest() {
    }

    public static void main(String[] args) {
        newObject();
        feedTakesTheHighestFirst();
        feedUpToTheLast();
        endKeepsTheFirst();
        endInRange();
        wordAtEachByte();
        wordOfNone();
        wordBehindALongerResult();
        countOfWhat();
        countOfTypes();
        placeOfRead();
        placeOfEncode();
        placeStays();
        tapeIsEmptyBehind();
        tapeIsNotRead();
        orderWithoutText();
        orderWithText();
        typesInRange();
        resultStays();
        allOf512Calls();
        Kit.finish();
    }

    private static SyntaxForge withText() {
        SyntaxForge forge = new SyntaxForge();
        StringBuilder chain = new StringBuilder();
        for (int i = 0; i < 90; i++) {
            chain.append("T").append(i).append("::=[1]T").append(i + 1).append(' ');
        }
        Kit.due("a TEXT", Kit.read(forge, TEXT + chain + "T90 ::= NULL END"), "95");
        return forge;
    }

    private static void newObject() {
        Kit.sentence("Promise 1: THE TAPE, THE RESULT are empty, there is no TEXT.");
        SyntaxForge forge = new SyntaxForge();
        Kit.due("count(0)", forge.count(0), 0);
        Kit.due("count(1)", forge.count(1), 0);
        Kit.due("count(2)", forge.count(2), 0);
        Kit.due("count(3)", forge.count(3), -1);
        Kit.due("end(0)", forge.end(0), 0);
        Kit.due("end(1)", Kit.ask(() -> forge.end(1)), Bench.BAD_NUMBER);
        Kit.due("word(0)", Kit.ask(() -> forge.word(0)), Bench.LONG);
        Kit.due("tag(0)", Kit.ask(() -> forge.tag(0)), Bench.NO_TEXT);
        Kit.due("encode(0, 0)", Kit.ask(() -> forge.encode(0, 0)), Bench.NO_TEXT);
        Kit.due("encode(0, 1)", Kit.ask(() -> forge.encode(0, 1)), Bench.NO_TEXT);
        for (int codec = 0; codec < 3; codec++) {
            int c = codec;
            Kit.due("decode(0, " + c + ")", Kit.ask(() -> forge.decode(0, c)), Bench.NO_TEXT);
        }
        Kit.due("count(3) still", forge.count(3), -1);
        Kit.due("read() of nothing", Kit.ask(forge::read), Bench.NONE);
        Kit.due("its PLACE", forge.count(3), 0);
    }

    private static void feedTakesTheHighestFirst() {
        Kit.sentence("Promise 2: The 20 bytes of five ints, the highest of each first, come to the TAPE; Answers its length.");
        SyntaxForge forge = withText();
        Kit.due("20 bytes", forge.feed(0x04260102, 0x03040506, 0x0708090A, 0xFBFCFDFE, 0xFF807F00), 20);
        Kit.due("40 bytes", forge.feed(0x11121314, 0x21222324, 0x31323334, 0x41424344, 0x51525354), 40);
        Kit.due("decode", forge.decode(0, 0), 79);
        Kit.due("in their order", new String(Kit.result(forge), java.nio.charset.StandardCharsets.ISO_8859_1),
                "'0102030405060708090AFBFCFDFEFF807F00" + "1112131421222324313233344142434451525354'H");
    }

    /** More than 512 calls: no other way leads to a TAPE that is full. */
    private static void feedUpToTheLast() {
        Kit.sentence("Promise 2: it would have more than 65536: IndexOutOfBoundsException.");
        SyntaxForge forge = new SyntaxForge();
        for (int i = 1; i <= 3276; i++) {
            Kit.due("feed", forge.feed(i, i, i, i, i), 20 * i);
        }
        Kit.due("16 are left", Kit.ask(() -> forge.feed(0, 0, 0, 0, 0)), Bench.LONG);
        Kit.due("nothing came", forge.count(0), 65520);
        forge.end(65517);
        Kit.due("19 are left", Kit.ask(() -> forge.feed(0, 0, 0, 0, 0)), Bench.LONG);
        Kit.due("nothing came", forge.count(0), 65517);
        forge.end(65516);
        Kit.due("20 are left", forge.feed(0, 0, 0, 0, 0), 65536);
        Kit.due("none is left", Kit.ask(() -> forge.feed(0, 0, 0, 0, 0)), Bench.LONG);
        Kit.due("it is full", forge.count(0), 65536);
        Kit.due("end at it", forge.end(65536), 65536);
        Kit.due("end behind it", Kit.ask(() -> forge.end(65537)), Bench.BAD_NUMBER);
    }

    private static void endKeepsTheFirst() {
        Kit.sentence("Promise 3: The TAPE keeps its first n bytes, n 0 .. its length. Answers n.");
        SyntaxForge forge = withText();
        forge.feed(0x0405A1A2, 0xA3000000, -1, -1, -1);
        Kit.due("end(5)", forge.end(5), 5);
        Kit.due("count(0)", forge.count(0), 5);
        Kit.due("feed goes on behind", forge.feed(0xB1B20000, 0, 0, 0, 0), 25);
        Kit.due("end(7)", forge.end(7), 7);
        Kit.due("decode", forge.decode(0, 0), 13);
        Kit.due("the bytes", new String(Kit.result(forge), java.nio.charset.StandardCharsets.ISO_8859_1), "'A1A2A3B1B2'H");
    }

    private static void endInRange() {
        Kit.sentence("Promise 3: n 0 .. its length.");
        SyntaxForge forge = new SyntaxForge();
        for (int n : new int[] {1, -1, Integer.MIN_VALUE, Integer.MAX_VALUE}) {
            Kit.due("empty, end(" + n + ")", Kit.ask(() -> forge.end(n)), Bench.BAD_NUMBER);
        }
        Kit.due("empty, end(0)", forge.end(0), 0);
        forge.feed(1, 2, 3, 4, 5);
        for (int n : new int[] {21, -1, Integer.MIN_VALUE, Integer.MAX_VALUE}) {
            Kit.due("20, end(" + n + ")", Kit.ask(() -> forge.end(n)), Bench.BAD_NUMBER);
            Kit.due("the TAPE stays", forge.count(0), 20);
        }
        Kit.due("20, end(20)", forge.end(20), 20);
        Kit.due("20, end(19)", forge.end(19), 19);
        Kit.due("19, end(20)", Kit.ask(() -> forge.end(20)), Bench.BAD_NUMBER);
        Kit.due("19, end(0)", forge.end(0), 0);
        Kit.due("0, end(1)", Kit.ask(() -> forge.end(1)), Bench.BAD_NUMBER);
        Kit.due("feed", forge.feed(1, 2, 3, 4, 5), 20);
    }

    private static void wordAtEachByte() {
        Kit.sentence("Promise 8: 8 bytes of THE RESULT from i on, the highest first, zeros behind its end");
        SyntaxForge forge = withText();
        Kit.due("encode", Kit.encode(forge, 0, 0, "'80FF7F0102030405060708'H"), "040b80ff7f0102030405060708");
        long[] due = {0x040B80FF7F010203L, 0x0B80FF7F01020304L, 0x80FF7F0102030405L, 0xFF7F010203040506L, 0x7F01020304050607L,
            0x0102030405060708L, 0x0203040506070800L, 0x0304050607080000L, 0x0405060708000000L, 0x0506070800000000L,
            0x0607080000000000L, 0x0708000000000000L, 0x0800000000000000L};
        for (int i = 0; i < due.length; i++) {
            Kit.due("word(" + i + ")", forge.word(i), due[i]);
        }
    }

    private static void wordOfNone() {
        Kit.sentence("Promise 8: i is none of its bytes: IndexOutOfBoundsException.");
        SyntaxForge forge = withText();
        Kit.due("no RESULT, word(0)", Kit.ask(() -> forge.word(0)), Bench.LONG);
        Kit.due("encode", Kit.encode(forge, 1, 1, "NULL"), "00");
        Kit.due("word(0)", forge.word(0), 0L);
        Kit.due("word(1)", Kit.ask(() -> forge.word(1)), Bench.LONG);
        for (int i : FAR) {
            Kit.due("word(" + i + ")", Kit.ask(() -> forge.word(i)), Bench.LONG);
        }
        Kit.due("it stays", forge.count(1), 1);
    }

    private static void wordBehindALongerResult() {
        Kit.sentence("Promise 8: zeros behind its end");
        SyntaxForge forge = withText();
        Kit.encode(forge, 0, 0, "'FFFFFFFFFFFFFFFFFFFFFFFF'H");
        Kit.encode(forge, 0, 1, "'FFFFFFFFFFFFFFFFFFFFFFFF'H");
        Kit.due("short", Kit.encode(forge, 1, 0, "NULL"), "0500");
        Kit.due("word(0)", forge.word(0), 0x0500000000000000L);
        Kit.due("word(1)", forge.word(1), 0L);
        Kit.due("word(2)", Kit.ask(() -> forge.word(2)), Bench.LONG);
        Kit.due("short again", Kit.encode(forge, 0, 1, "'FF'H"), "01ff");
        Kit.due("word(1)", forge.word(1), 0xFF00000000000000L);
        Kit.due("PRINTED", Kit.decode(forge, 1, 0, Kit.hex("0500")), "NULL");
        Kit.due("word(3)", forge.word(3), 0x4C00000000000000L);
    }

    private static void countOfWhat() {
        Kit.sentence("Promise 9: what 0 .. 3.");
        SyntaxForge forge = withText();
        for (int what : new int[] {-1, 4, Integer.MIN_VALUE, Integer.MAX_VALUE}) {
            Kit.due("count(" + what + ")", Kit.ask(() -> forge.count(what)), Bench.BAD_NUMBER);
        }
        Kit.sentence("Promise 9: 0, 1 bytes of the TAPE, of THE RESULT; 2 TYPES");
        forge.feed(0, 0, 0, 0, 0);
        forge.end(7);
        Kit.due("count(0)", forge.count(0), 7);
        Kit.due("count(1)", forge.count(1), 0);
        Kit.due("count(2)", forge.count(2), 95);
        Kit.due("count(3)", forge.count(3), -1);
        Kit.encode(forge, 0, 0, "'0102'H");
        Kit.due("count(0)", forge.count(0), 0);
        Kit.due("count(1)", forge.count(1), 4);
    }

    private static void countOfTypes() {
        Kit.sentence("Promise 9: 2 TYPES (0 without a TEXT)");
        SyntaxForge forge = new SyntaxForge();
        Kit.due("without", forge.count(2), 0);
        Kit.read(forge, "M DEFINITIONS ::= BEGIN A ::= A END");
        Kit.due("unsound", forge.count(2), 0);
        Kit.due("no TEXT yet", Kit.ask(() -> forge.tag(0)), Bench.NO_TEXT);
        Kit.read(forge, "M DEFINITIONS ::= BEGIN A ::= NULL B ::= NULL");
        Kit.due("broken", forge.count(2), 0);
        Kit.due("no TEXT yet", Kit.ask(() -> forge.tag(0)), Bench.NO_TEXT);
        Kit.sentence("Promise 4: Answers how many TYPES are assigned.");
        Kit.due("two", Kit.read(forge, "M DEFINITIONS ::= BEGIN A ::= NULL B ::= SEQUENCE {a NULL, b SET OF NULL} END"), "2");
        Kit.due("two", forge.count(2), 2);
        Kit.due("none", Kit.read(forge, "M DEFINITIONS ::= BEGIN END"), "0");
        Kit.due("none", forge.count(2), 0);
        Kit.sentence("IllegalArgumentException: a number out of range; IllegalStateException: no TEXT");
        Kit.due("a TEXT of no TYPES", Kit.ask(() -> forge.tag(0)), Bench.BAD_NUMBER);
        Kit.due("a TEXT of no TYPES", Kit.ask(() -> forge.encode(0, 0)), Bench.BAD_NUMBER);
        Kit.due("a TEXT of no TYPES", Kit.ask(() -> forge.decode(0, 0)), Bench.BAD_NUMBER);
    }

    private static void placeOfRead() {
        Kit.sentence("Promise 9: 3 PLACE of the latest read or encode that read the TAPE, -1 if it told none (as for a TEXT that is not SOUND), or before.");
        SyntaxForge forge = new SyntaxForge();
        Kit.due("before", forge.count(3), -1);
        Kit.read(forge, "M DEFINITIONS ::= BEGIN A ::= null END");
        Kit.due("broken", forge.count(3), 30);
        Kit.read(forge, "M DEFINITIONS ::= BEGIN A ::= A END");
        Kit.due("not SOUND", forge.count(3), -1);
        Kit.read(forge, "M DEFINITIONS ::= BEGIN A ::= ");
        Kit.due("broken at its end", forge.count(3), 30);
        Kit.read(forge, "M DEFINITIONS ::= BEGIN A ::= NULL END");
        Kit.due("SOUND", forge.count(3), -1);
        Kit.read(forge, "m");
        Kit.due("broken at 0", forge.count(3), 0);
    }

    private static void placeOfEncode() {
        Kit.sentence("Promise 5: SYNTAX is broken, or it is none of the TYPE: UnsupportedOperationException, PLACE is told.");
        SyntaxForge forge = withText();
        Kit.due("broken", Kit.encode(forge, 1, 0, " NULL ;"), Bench.NONE + "@6");
        Kit.due("a VALUE", Kit.encode(forge, 1, 0, "NULL"), "0500");
        Kit.due("none told", forge.count(3), -1);
        Kit.due("none of it", Kit.encode(forge, 1, 1, "   TRUE"), Bench.NONE + "@3");
        Kit.sentence("SYNTAX is broken before a VALUE is none");
        Kit.due("both", Kit.encode(forge, 1, 0, "TRUE ;"), Bench.NONE + "@5");
        Kit.due("both", Kit.encode(forge, 3, 0, "{1, 2"), Bench.NONE + "@5");
        Kit.sentence("Promise 9: -1 if it told none");
        Kit.due("too long", Kit.encode(forge, 2, 0, "{" + "NULL,".repeat(330) + "NULL}"), Bench.LONG);
        Kit.due("none told", forge.count(3), -1);
    }

    private static void placeStays() {
        Kit.sentence("Promise 9: PLACE of the latest read or encode that read the TAPE");
        SyntaxForge forge = withText();
        Kit.due("told", Kit.encode(forge, 1, 0, " ;"), Bench.NONE + "@1");
        Kit.due("decode", Kit.decode(forge, 1, 0, Kit.hex("0500")), "NULL");
        Kit.due("decode leaves it", forge.count(3), 1);
        Kit.due("decode", Kit.decode(forge, 1, 0, Kit.hex("05")), Bench.NONE);
        Kit.due("decode leaves it", forge.count(3), 1);
        Kit.due("out of range", Kit.ask(() -> forge.encode(95, 0)), Bench.BAD_NUMBER);
        Kit.due("encode did not read", forge.count(3), 1);
        forge.feed(1, 2, 3, 4, 5);
        forge.end(0);
        forge.tag(0);
        Kit.due("others leave it", forge.count(3), 1);
        SyntaxForge bare = new SyntaxForge();
        Kit.read(bare, "   ");
        Kit.due("told", bare.count(3), 3);
        Kit.due("no TEXT", Kit.ask(() -> bare.encode(0, 0)), Bench.NO_TEXT);
        Kit.due("encode did not read", bare.count(3), 3);
    }

    private static void tapeIsEmptyBehind() {
        Kit.sentence("A call that reads THE TAPE leaves it empty, also if it throws.");
        SyntaxForge forge = withText();
        Kit.due("read has come through", forge.count(0), 0);
        Kit.read(forge, "M DEFINITIONS");
        Kit.due("read of broken SYNTAX", forge.count(0), 0);
        Kit.read(forge, "M DEFINITIONS ::= BEGIN A ::= A END");
        Kit.due("read of what is not SOUND", forge.count(0), 0);
        for (int codec = 0; codec < 2; codec++) {
            Kit.due("encode", Kit.encode(forge, 1, codec, "NULL").length() > 0, true);
            Kit.due("encode has come through", forge.count(0), 0);
            Kit.encode(forge, 1, codec, "NULL ;");
            Kit.due("encode of broken SYNTAX", forge.count(0), 0);
            Kit.encode(forge, 1, codec, "TRUE");
            Kit.due("encode of none", forge.count(0), 0);
        }
        Kit.due("too long", Kit.encode(forge, 2, 0, "{" + "NULL,".repeat(330) + "NULL}"), Bench.LONG);
        Kit.due("encode of what is too long", forge.count(0), 0);
        SyntaxForge other = withText();
        Kit.decode(other, 1, 0, Kit.hex("0500"));
        Kit.due("decode has come through", other.count(0), 0);
        Kit.decode(other, 1, 2, Kit.hex("05000500"));
        Kit.due("decode of none", other.count(0), 0);
        Kit.decode(other, 1, 1, Kit.hex("0500"));
        Kit.due("decode of none", other.count(0), 0);
        SyntaxForge many = new SyntaxForge();
        Kit.read(many, "M DEFINITIONS ::= BEGIN A ::= SEQUENCE OF NULL END");
        Kit.due("too many", Kit.decode(many, 0, 1, Kit.hex("c400")), Bench.LONG);
        Kit.due("decode of too many", many.count(0), 0);
    }

    private static void tapeIsNotRead() {
        Kit.sentence("(But for a number out of range, or where there is no TEXT: then it did not read it.)");
        SyntaxForge forge = new SyntaxForge();
        byte[] text = Kit.ascii("M DEFINITIONS ::= BEGIN A ::= NULL END");
        Kit.lay(forge, text);
        for (int codec = -1; codec < 4; codec++) {
            int c = codec;
            Kit.due("encode(0, " + c + ")", Kit.ask(() -> forge.encode(0, c)), c < 0 || c > 1 ? Bench.BAD_NUMBER : Bench.NO_TEXT);
            Kit.due("decode(0, " + c + ")", Kit.ask(() -> forge.decode(0, c)), c < 0 || c > 2 ? Bench.BAD_NUMBER : Bench.NO_TEXT);
            Kit.due("encode(-1, " + c + ")", Kit.ask(() -> forge.encode(-1, c)), Bench.BAD_NUMBER);
            Kit.due("decode(-1, " + c + ")", Kit.ask(() -> forge.decode(-1, c)), Bench.BAD_NUMBER);
            Kit.due("the TAPE stays", forge.count(0), text.length);
        }
        Kit.due("and can be read", Kit.ask(forge::read), "1");
        Kit.lay(forge, Kit.ascii("NULL"));
        Kit.due("encode(1, 0)", Kit.ask(() -> forge.encode(1, 0)), Bench.BAD_NUMBER);
        Kit.due("encode(0, 2)", Kit.ask(() -> forge.encode(0, 2)), Bench.BAD_NUMBER);
        Kit.due("decode(1, 2)", Kit.ask(() -> forge.decode(1, 2)), Bench.BAD_NUMBER);
        Kit.due("decode(0, 3)", Kit.ask(() -> forge.decode(0, 3)), Bench.BAD_NUMBER);
        Kit.due("the TAPE stays", forge.count(0), 4);
        Kit.due("and can be encoded", Kit.ask(() -> forge.encode(0, 0)), "2");
        Kit.due("its bytes", forge.word(0), 0x0500000000000000L);
    }

    private static void orderWithoutText() {
        Kit.sentence("What is thrown, in this order: IllegalArgumentException: a number out of range; IllegalStateException: no TEXT; then as the call says.");
        SyntaxForge forge = new SyntaxForge();
        for (int t : new int[] {0, 1, Integer.MAX_VALUE}) {
            Kit.due("tag(" + t + ")", Kit.ask(() -> forge.tag(t)), Bench.NO_TEXT);
            Kit.due("encode(" + t + ", 1)", Kit.ask(() -> forge.encode(t, 1)), Bench.NO_TEXT);
            Kit.due("encode(" + t + ", 2)", Kit.ask(() -> forge.encode(t, 2)), Bench.BAD_NUMBER);
            Kit.due("decode(" + t + ", 2)", Kit.ask(() -> forge.decode(t, 2)), Bench.NO_TEXT);
            Kit.due("decode(" + t + ", 3)", Kit.ask(() -> forge.decode(t, 3)), Bench.BAD_NUMBER);
        }
        for (int t : new int[] {-1, Integer.MIN_VALUE}) {
            Kit.due("tag(" + t + ")", Kit.ask(() -> forge.tag(t)), Bench.BAD_NUMBER);
            Kit.due("encode(" + t + ", 0)", Kit.ask(() -> forge.encode(t, 0)), Bench.BAD_NUMBER);
            Kit.due("decode(" + t + ", 0)", Kit.ask(() -> forge.decode(t, 0)), Bench.BAD_NUMBER);
        }
    }

    private static void orderWithText() {
        Kit.sentence("What is thrown, in this order: a number out of range before what the call says");
        SyntaxForge forge = withText();
        Kit.lay(forge, Kit.ascii("; no VALUE"));
        for (int codec : new int[] {-1, 2, Integer.MIN_VALUE, Integer.MAX_VALUE}) {
            Kit.due("encode(0, " + codec + ")", Kit.ask(() -> forge.encode(0, codec)), Bench.BAD_NUMBER);
        }
        for (int codec : new int[] {-1, 3, Integer.MIN_VALUE, Integer.MAX_VALUE}) {
            Kit.due("decode(0, " + codec + ")", Kit.ask(() -> forge.decode(0, codec)), Bench.BAD_NUMBER);
        }
        Kit.due("the TAPE stays", forge.count(0), 10);
        Kit.due("encode(0, 0)", Kit.ask(() -> forge.encode(0, 0)), Bench.NONE);
        Kit.due("encode(0, 1)", Kit.ask(() -> forge.encode(0, 1)), Bench.NONE);
        Kit.due("decode(0, 2)", Kit.ask(() -> forge.decode(0, 2)), Bench.NONE);
    }

    private static void typesInRange() {
        Kit.sentence("Promise 5: t a TYPE, from 0 as assigned (without a TEXT each t from 0 on is in range, here and below)");
        SyntaxForge forge = new SyntaxForge();
        Kit.due("two", Kit.read(forge, "M DEFINITIONS ::= BEGIN A ::= NULL B ::= BOOLEAN END"), "2");
        Kit.due("the first", Kit.encode(forge, 0, 0, "NULL"), "0500");
        Kit.due("the last", Kit.encode(forge, 1, 0, "TRUE"), "0101ff");
        Kit.due("tag(0)", forge.tag(0), 5L);
        Kit.due("tag(1)", forge.tag(1), 1L);
        for (int t : new int[] {2, -1, Integer.MIN_VALUE, Integer.MAX_VALUE}) {
            Kit.due("tag(" + t + ")", Kit.ask(() -> forge.tag(t)), Bench.BAD_NUMBER);
            Kit.due("encode(" + t + ", 0)", Kit.ask(() -> forge.encode(t, 0)), Bench.BAD_NUMBER);
            Kit.due("decode(" + t + ", 0)", Kit.ask(() -> forge.decode(t, 0)), Bench.BAD_NUMBER);
        }
    }

    private static void allOf512Calls() {
        Kit.sentence("An object is used for at most 512 calls after it has been made");
        SyntaxForge forge = new SyntaxForge();
        byte[] text = Kit.ascii("M DEFINITIONS ::= BEGIN O ::= OCTET STRING END");
        int calls = 0;
        for (int i = 0; i < text.length; i += 20) {
            int[] five = new int[5];
            for (int k = 0; k < 20 && i + k < text.length; k++) {
                five[k / 4] |= text[i + k] << 8 * (3 - k % 4);
            }
            Kit.due("feed", forge.feed(five[0], five[1], five[2], five[3], five[4]), i + 20);
            calls++;
        }
        Kit.due("end", forge.end(text.length), text.length);
        Kit.due("read", forge.read(), 1);
        calls += 2;
        while (calls <= 512 - 4 - 4) {
            Kit.due("feed", forge.feed(0x0401AB00, 0, 0, 0, 0), 20);
            Kit.due("end", forge.end(3), 3);
            Kit.due("decode", forge.decode(0, 2), 5);
            Kit.due("word", forge.word(0), 0x2741422748000000L);
            calls += 4;
        }
        while (calls < 512 - 4) {
            Kit.due("count", forge.count(0), 0);
            calls++;
        }
        Kit.due("feed", forge.feed(0x0402AB00, 0, 0, 0, 0), 20);
        Kit.due("end", forge.end(4), 4);
        Kit.due("decode", forge.decode(0, 0), 7);
        Kit.due("call " + (calls + 4), forge.word(0), 0x2741423030274800L);
    }

    private static void resultStays() {
        Kit.sentence("A call that throws changes nothing, but as said.");
        SyntaxForge forge = withText();
        Kit.due("THE RESULT", Kit.encode(forge, 0, 0, "'AABBCC'H"), "0403aabbcc");
        Kit.due("read", Kit.read(forge, "M"), Bench.NONE);
        Kit.due("read", Kit.read(forge, "M DEFINITIONS ::= BEGIN A ::= A END"), Bench.UNSOUND);
        Kit.due("encode", Kit.encode(forge, 0, 0, "'A'H"), Bench.NONE + "@0");
        Kit.due("encode", Kit.encode(forge, 0, 1, "'AA'H '"), Bench.NONE + "@6");
        Kit.due("encode", Kit.encode(forge, 2, 0, "{" + "NULL,".repeat(330) + "NULL}"), Bench.LONG);
        Kit.due("decode", Kit.decode(forge, 0, 2, Kit.hex("24800401dd")), Bench.NONE);
        Kit.due("decode", Kit.decode(forge, 0, 1, Kit.hex("04dddd")), Bench.NONE);
        Kit.due("feed", Kit.ask(() -> forge.end(1)), Bench.BAD_NUMBER);
        Kit.due("tag", Kit.ask(() -> forge.tag(95)), Bench.BAD_NUMBER);
        Kit.due("count", Kit.ask(() -> forge.count(4)), Bench.BAD_NUMBER);
        Kit.due("word", Kit.ask(() -> forge.word(5)), Bench.LONG);
        Kit.due("it stays", Kit.toHex(Kit.result(forge)), "0403aabbcc");
        Kit.due("the TEXT stays", forge.count(2), 95);
        Kit.due("a good read leaves THE RESULT", Kit.read(forge, "M DEFINITIONS ::= BEGIN A ::= NULL END"), "1");
        Kit.due("it stays", Kit.toHex(Kit.result(forge)), "0403aabbcc");
    }
}
