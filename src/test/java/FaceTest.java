/** Promises 1 to 3, 8 and 9: the tape, THE RESULT, what is thrown and in which order. */
final class FaceTest {
    private static final String BAD_NUMBER = "IllegalArgumentException";
    private static final String NO_TEXT = "IllegalStateException";
    private static final String OUTSIDE = "IndexOutOfBoundsException";

    private FaceTest() {
    }

    public static void main(String[] args) {
        newObject();
        tape();
        words();
        orderOfThrows();
        places();
        Kit.finish();
    }

    private static void newObject() {
        SyntaxForge forge = new SyntaxForge();
        Kit.due("new count 0", forge.count(0), 0);
        Kit.due("new count 1", forge.count(1), 0);
        Kit.due("new count 2", forge.count(2), 0);
        Kit.due("new count 3", forge.count(3), -1);
        Kit.due("new count 4", Kit.ask(() -> forge.count(4)), BAD_NUMBER);
        Kit.due("new count -1", Kit.ask(() -> forge.count(-1)), BAD_NUMBER);
        Kit.due("new word", Kit.ask(() -> forge.word(0)), OUTSIDE);
        Kit.due("new tag", Kit.ask(() -> forge.tag(0)), NO_TEXT);
        Kit.due("new tag far", Kit.ask(() -> forge.tag(Integer.MAX_VALUE)), NO_TEXT);
        Kit.due("new tag below", Kit.ask(() -> forge.tag(-1)), BAD_NUMBER);
    }

    private static void tape() {
        SyntaxForge forge = new SyntaxForge();
        Kit.due("feed", forge.feed(0x01020304, -1, 0, 0, 5), 20);
        Kit.due("feed again", forge.feed(0, 0, 0, 0, 0), 40);
        Kit.due("end too far", Kit.ask(() -> forge.end(41)), BAD_NUMBER);
        Kit.due("end below", Kit.ask(() -> forge.end(-1)), BAD_NUMBER);
        Kit.due("tape stays", forge.count(0), 40);
        Kit.due("end", forge.end(40), 40);
        Kit.due("end sooner", forge.end(3), 3);
        Kit.due("feed behind", forge.feed(0, 0, 0, 0, 0), 23);
        Kit.due("end at all", forge.end(0), 0);
        SyntaxForge full = new SyntaxForge();
        for (int i = 1; i <= 3276; i++) {
            full.feed(i, i, i, i, i);
        }
        Kit.due("full", full.count(0), 65520);
        Kit.due("too full", Kit.ask(() -> full.feed(0, 0, 0, 0, 0)), OUTSIDE);
        Kit.due("full stays", full.count(0), 65520);
        full.end(65516);
        Kit.due("just full", full.feed(0, 0, 0, 0, 0), 65536);
        Kit.due("too full by all", Kit.ask(() -> full.feed(0, 0, 0, 0, 0)), OUTSIDE);
    }

    private static void words() {
        SyntaxForge forge = new SyntaxForge();
        Kit.due("read", Kit.read(forge, "M DEFINITIONS ::= BEGIN O ::= OCTET STRING END"), "1");
        Kit.due("encode", Kit.encode(forge, 0, 0, "'0102030405060708FF'H"), "04090102030405060708ff");
        Kit.due("word 0", forge.word(0), 0x0409010203040506L);
        Kit.due("word 3", forge.word(3), 0x02030405060708FFL);
        Kit.due("word 10", forge.word(10), 0xFF00000000000000L);
        Kit.due("word 11", Kit.ask(() -> forge.word(11)), OUTSIDE);
        Kit.due("word -1", Kit.ask(() -> forge.word(-1)), OUTSIDE);
        Kit.due("word far", Kit.ask(() -> forge.word(Integer.MAX_VALUE)), OUTSIDE);
        Kit.due("count 1", forge.count(1), 11);
        Kit.due("a throw", Kit.encode(forge, 0, 0, "TRUE"), "UnsupportedOperationException@0");
        Kit.due("stays", forge.count(1), 11);
        Kit.due("a throw", Kit.decode(forge, 0, 0, Kit.hex("0401")), "UnsupportedOperationException");
        Kit.due("stays", forge.word(0), 0x0409010203040506L);
        Kit.due("place of the encode", forge.count(3), 0);
    }

    private static void orderOfThrows() {
        SyntaxForge forge = new SyntaxForge();
        forge.feed(0, 0, 0, 0, 0);
        Kit.due("encode without TEXT", Kit.ask(() -> forge.encode(7, 1)), NO_TEXT);
        Kit.due("encode codec", Kit.ask(() -> forge.encode(7, 2)), BAD_NUMBER);
        Kit.due("encode codec below", Kit.ask(() -> forge.encode(7, -1)), BAD_NUMBER);
        Kit.due("encode t", Kit.ask(() -> forge.encode(-1, 0)), BAD_NUMBER);
        Kit.due("decode without TEXT", Kit.ask(() -> forge.decode(7, 2)), NO_TEXT);
        Kit.due("decode codec", Kit.ask(() -> forge.decode(7, 3)), BAD_NUMBER);
        Kit.due("decode t", Kit.ask(() -> forge.decode(-1, 0)), BAD_NUMBER);
        Kit.due("not read", forge.count(0), 20);
        Kit.due("read", Kit.read(forge, "M DEFINITIONS ::= BEGIN N ::= NULL END"), "1");
        Kit.due("empty", forge.count(0), 0);
        forge.feed(0, 0, 0, 0, 0);
        Kit.due("encode t", Kit.ask(() -> forge.encode(1, 0)), BAD_NUMBER);
        Kit.due("decode t", Kit.ask(() -> forge.decode(1, 0)), BAD_NUMBER);
        Kit.due("decode codec", Kit.ask(() -> forge.decode(0, 3)), BAD_NUMBER);
        Kit.due("not read", forge.count(0), 20);
        Kit.due("decode", Kit.ask(() -> forge.decode(0, 0)), "UnsupportedOperationException");
        Kit.due("read by a throw", forge.count(0), 0);
        forge.feed(0, 0, 0, 0, 0);
        Kit.due("encode", Kit.ask(() -> forge.encode(0, 0)), "UnsupportedOperationException");
        Kit.due("read by a throw", forge.count(0), 0);
    }

    private static void places() {
        SyntaxForge forge = new SyntaxForge();
        Kit.due("broken", Kit.read(forge, "M DEFINITIONS ; "), "UnsupportedOperationException");
        Kit.due("place", forge.count(3), 14);
        Kit.due("no text", forge.count(2), 0);
        Kit.due("not in range", Kit.ask(() -> forge.encode(-1, 0)), BAD_NUMBER);
        Kit.due("no text", Kit.ask(() -> forge.encode(0, 0)), NO_TEXT);
        Kit.due("place stays", forge.count(3), 14);
        Kit.due("unsound", Kit.read(forge, "M DEFINITIONS ::= BEGIN A ::= B END"), "ArithmeticException");
        Kit.due("no place", forge.count(3), -1);
        Kit.due("sound", Kit.read(forge, "M DEFINITIONS ::= BEGIN A ::= NULL B ::= A END"), "2");
        Kit.due("broken", Kit.read(forge, "M DEFINITIONS ::= BEGIN A ::= NULL"), "UnsupportedOperationException");
        Kit.due("place", forge.count(3), 34);
        Kit.due("the TEXT before", forge.count(2), 2);
        Kit.due("decode", Kit.decode(forge, 1, 0, Kit.hex("0500")), "NULL");
        Kit.due("place stays", forge.count(3), 34);
        Kit.due("encode", Kit.encode(forge, 1, 0, "NULL"), "0500");
        Kit.due("no place", forge.count(3), -1);
    }
}
