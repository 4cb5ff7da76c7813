/** The edges of SOUND, TAGS and DEFAULT, and of promises 4 and 7, sentence by sentence. */
final class SoundEdgeTest {
    private static final String AUTOMATIC = "AUTOMATIC TAGS ";
    private static final String IMPLICIT = "IMPLICIT TAGS ";
    private static final String EXPLICIT = "EXPLICIT TAGS ";
    private static final long CONTEXT = 2L << 40;
    private static final String[] BRACES = {"SEQUENCE {", "SET {", "CHOICE {"};

    private SoundEdgeTest() {
    }

    public static void main(String[] args) {
        assignedOnce();
        usedAreAssigned();
        differentIds();
        manyIds();
        numbersOfItems();
        numbersOfExtensions();
        greatestNumbers();
        firstNotAboveSecond();
        tagNumbers();
        namesInRings();
        choicesInRings();
        universalNumbers();
        implicitAndExplicit();
        automaticTags();
        tagsOfAlternatives();
        tagsOfSets();
        tagsOfSequences();
        tagsOfExtensions();
        defaultsAreValues();
        defaultsWait();
        defaultsAreEqualByDer();
        defaultsOfRanges();
        defaultsThere();
        syntaxBeforeSound();
        theTextFromNowOn();
        Kit.finish();
    }

    private static void assignedOnce() {
        Kit.sentence("TYPENAMES are assigned once");
        Bench.sound("A ::= NULL B ::= NULL");
        Bench.unsound("A ::= NULL A ::= NULL");
        Bench.unsound("A ::= NULL B ::= NULL A ::= BOOLEAN");
        Bench.sound("A ::= NULL AA ::= NULL A-A ::= NULL A1 ::= NULL Aa ::= NULL");
        Bench.sound("M ::= NULL");
    }

    private static void usedAreAssigned() {
        Kit.sentence("and all that are used are assigned.");
        Bench.sound("A ::= B B ::= NULL");
        Bench.unsound("A ::= B");
        Bench.unsound("A ::= M");
        Bench.unsound("A ::= [1] B");
        Bench.unsound("A ::= SEQUENCE OF B");
        Bench.unsound("A ::= SET SIZE (0) OF B");
        for (String brace : BRACES) {
            Bench.unsound("A ::= " + brace + "a NULL, b B}");
            Bench.unsound("A ::= " + brace + "a NULL, ..., b [1] B}");
        }
        Bench.unsound("A ::= SEQUENCE {a B OPTIONAL}");
        Bench.unsound("A ::= SEQUENCE {a B DEFAULT NULL}");
    }

    private static void differentIds() {
        Kit.sentence("IDS of one { } are different");
        for (String brace : BRACES) {
            Bench.sound("A ::= " + brace + "a [0] NULL, b [1] NULL}");
            Bench.unsound("A ::= " + brace + "a [0] NULL, a [1] NULL}");
            Bench.unsound("A ::= " + brace + "a [0] NULL, b [1] NULL, a [2] NULL}");
            Bench.unsound("A ::= " + brace + "a [0] NULL, ..., a [1] NULL}");
            Bench.unsound("A ::= " + brace + "b [0] NULL, ..., a [1] NULL, a [2] NULL}");
            Bench.sound("A ::= " + brace + "a [0] " + brace + "a [0] NULL}, b [1] " + brace + "a [0] NULL}}");
            Bench.unsound("A ::= SEQUENCE OF " + brace + "b [0] " + brace + "a [0] NULL, a [1] NULL}}");
        }
        Bench.unsound("A ::= ENUMERATED {a, a}");
        Bench.unsound("A ::= ENUMERATED {a(1), b, a(2)}");
        Bench.unsound("A ::= ENUMERATED {a, ..., a}");
        Bench.unsound("A ::= ENUMERATED {b, ..., a, a}");
        Bench.sound("A ::= ENUMERATED {a, b} B ::= ENUMERATED {a, b}");
    }

    /** All IDS of two letters, so that many agree but for one of them. */
    private static void manyIds() {
        Kit.sentence("IDS of one { } are different");
        StringBuilder text = new StringBuilder("A::=ENUMERATED{");
        for (int i = 0; i < 26 * 26; i++) {
            text.append(i == 0 ? "" : ",").append((char) ('a' + i / 26)).append((char) ('a' + i % 26));
        }
        Bench bench = new Bench(text + "}");
        for (int i = 0; i < 26 * 26; i += 7) {
            String name = "" + (char) ('a' + i / 26) + (char) ('a' + i % 26);
            String der = i < 128 ? String.format("0a01%02x", i) : String.format("0a02%04x", i);
            SyntaxForge forge = bench.ready();
            Kit.due("item " + name, Kit.encode(forge, 0, 0, name), der);
            Kit.due("item " + name, Kit.decode(forge, 0, 0, Kit.hex(der)), name);
        }
        for (String again : new String[] {"aa", "az", "za", "zz", "mn"}) {
            Bench.unsound(text + "," + again + "}");
        }
        for (String tail : new String[] {"", "0", "B", "aa", "b7", "bc1", "name", "x-y-z", "eleven-more", "aaaaaaaaaaaaaaaaaaaa"}) {
            StringBuilder ids = new StringBuilder();
            for (char c = 'a'; c <= 'z'; c++) {
                ids.append(c == 'a' ? "" : ", ").append(c).append(tail);
            }
            Bench.sound("A ::= ENUMERATED {" + ids + "}");
            Bench.unsound("A ::= ENUMERATED {" + ids + ", q" + tail + "}");
        }
    }

    private static void items(String items, String... derByItem) {
        Bench bench = new Bench("A ::= ENUMERATED {" + items + "}");
        for (int i = 0; i < derByItem.length; i += 2) {
            bench.der(0, derByItem[i], derByItem[i + 1]);
        }
    }

    private static void numbersOfItems() {
        Kit.sentence("before the ... those without take, in order, the least not taken by any of these with ( ) or before, from 0 on");
        items("a, b, c", "a", "0a0100", "b", "0a0101", "c", "0a0102");
        items("a(0), b, c", "b", "0a0101", "c", "0a0102");
        items("a, b(0), c", "a", "0a0101", "b", "0a0100", "c", "0a0102");
        items("a, b, c(1), d(0), e", "a", "0a0102", "b", "0a0103", "e", "0a0104");
        items("a, b(2), c, d, e(3)", "a", "0a0100", "c", "0a0101", "d", "0a0104");
        items("a(-1), b, c(-128), d(-129)", "a", "0a01ff", "b", "0a0100", "c", "0a0180", "d", "0a02ff7f");
        items("a(5), b, ..., c(1)", "b", "0a0100", "c", "0a0101");
        items("a(9223372036854775807), b(-9223372036854775807), c", "a", "0a087fffffffffffffff", "b", "0a088000000000000001", "c", "0a0100");
        Kit.sentence("numbers of ITEMS are different");
        Bench.unsound("A ::= ENUMERATED {a(1), b(1)}");
        Bench.unsound("A ::= ENUMERATED {a(-1), b, c(-1)}");
        Bench.unsound("A ::= ENUMERATED {a(1), ..., b(1)}");
        Bench.unsound("A ::= ENUMERATED {a, ..., b(0)}");
        Bench.unsound("A ::= ENUMERATED {a, b, ..., c(1)}");
        Bench.sound("A ::= ENUMERATED {a, b, ..., c(2)}");
        Bench.unsound("A ::= ENUMERATED {a(0), b(-0)}");
    }

    private static void numbersOfExtensions() {
        Kit.sentence("EXTENSIONS without one more than the greatest before them");
        items("a, ..., b, c", "b", "0a0101", "c", "0a0102");
        items("a(7), b, ..., c, d", "b", "0a0100", "c", "0a0108", "d", "0a0109");
        items("a(-5), ..., b, c", "b", "0a01fc", "c", "0a01fd");
        items("a(5), ..., b(2), c, d(100), e", "b", "0a0102", "c", "0a0106", "d", "0a0164", "e", "0a0165");
        items("a(127), ..., b", "b", "0a020080");
        Kit.sentence("each is greater than the EXTENSION before it");
        Bench.sound("A ::= ENUMERATED {a(9), ..., b(2), c(3)}");
        Bench.unsound("A ::= ENUMERATED {a(9), ..., b(3), c(3)}");
        Bench.unsound("A ::= ENUMERATED {a(9), ..., b(3), c(2)}");
        Bench.unsound("A ::= ENUMERATED {a(9), ..., b, c(8)}");
        Bench.unsound("A ::= ENUMERATED {a(9), ..., b, c(10)}");
        Bench.sound("A ::= ENUMERATED {a(9), ..., b, c(11)}");
        Bench.sound("A ::= ENUMERATED {a(9), ..., b(-9223372036854775807), c(-9), d}");
        Bench.unsound("A ::= ENUMERATED {a(9), ..., b(-8), c(-9)}");
    }

    private static void greatestNumbers() {
        Kit.sentence("EXTENSIONS without one more than the greatest before them (2^63 is no number)");
        items("a(9223372036854775806), ..., b", "b", "0a087fffffffffffffff");
        Bench.unsound("A ::= ENUMERATED {a(9223372036854775807), ..., b}");
        Bench.unsound("A ::= ENUMERATED {a, ..., b(9223372036854775807), c}");
        Bench.sound("A ::= ENUMERATED {a(9223372036854775807), b, ..., c(3)}");
    }

    private static void firstNotAboveSecond() {
        Kit.sentence("RANGE, SIZE: the first not above the second (MAX, MIN: none).");
        Bench.sound("A ::= INTEGER (5..5)");
        Bench.unsound("A ::= INTEGER (6..5)");
        Bench.unsound("A ::= INTEGER (6..5, ...)");
        Bench.sound("A ::= INTEGER (-5..-5)");
        Bench.sound("A ::= INTEGER (-6..-5)");
        Bench.unsound("A ::= INTEGER (-5..-6)");
        Bench.unsound("A ::= INTEGER (0..-1)");
        Bench.sound("A ::= INTEGER (-9223372036854775807..9223372036854775807)");
        Bench.unsound("A ::= INTEGER (9223372036854775807..-9223372036854775807)");
        Bench.sound("A ::= INTEGER (9223372036854775807..MAX)");
        Bench.sound("A ::= INTEGER (MIN..-9223372036854775807)");
        for (String base : new String[] {"BIT STRING", "OCTET STRING", "IA5String", "PrintableString", "NumericString", "VisibleString"}) {
            Bench.sound("A ::= " + base + " (SIZE (5..5))");
            Bench.unsound("A ::= " + base + " (SIZE (6..5))");
            Bench.unsound("A ::= " + base + " (SIZE (1..0, ...))");
            Bench.sound("A ::= " + base + " (SIZE (9223372036854775807..MAX))");
        }
        for (String base : new String[] {"SEQUENCE", "SET"}) {
            Bench.sound("A ::= " + base + " SIZE (5..5) OF NULL");
            Bench.unsound("A ::= " + base + " SIZE (6..5) OF NULL");
            Bench.unsound("A ::= " + base + " SIZE (1..0, ...) OF NULL");
            Bench.unsound("A ::= SEQUENCE {a " + base + " OF " + base + " SIZE (6..5) OF NULL OPTIONAL}");
        }
    }

    private static void tagNumbers() {
        Kit.sentence("NUMBERS of tags are below 2^31.");
        for (String sort : new String[] {"", "UNIVERSAL ", "APPLICATION ", "PRIVATE "}) {
            Bench.sound("A ::= [" + sort + "2147483647] NULL");
            Bench.unsound("A ::= [" + sort + "2147483648] NULL");
            Bench.unsound("A ::= [" + sort + "4294967296] NULL");
            Bench.unsound("A ::= [" + sort + "9223372036854775807] NULL");
        }
        Bench.unsound("A ::= SEQUENCE OF CHOICE {a [2147483648] NULL}");
    }

    private static void namesInRings() {
        Kit.sentence("A TYPENAME is not, by TYPENAMES alone, itself");
        Bench.unsound("A ::= A");
        Bench.unsound("A ::= B B ::= A");
        Bench.unsound("A ::= B B ::= C C ::= A");
        Bench.unsound("A ::= B B ::= C C ::= B");
        Bench.unsound("N ::= NULL A ::= N B ::= B");
        Bench.sound("A ::= B B ::= C C ::= D D ::= NULL");
        Bench.sound("A ::= SEQUENCE OF A");
        Bench.sound("A ::= B B ::= SEQUENCE {a A}");
        Bench.sound("A ::= SET {a A OPTIONAL}");
    }

    private static void choicesInRings() {
        Kit.sentence("nor an alternative of a CHOICE without tag, by such, that CHOICE.");
        Bench.unsound("A ::= CHOICE {a A}");
        Bench.unsound("A ::= CHOICE {a NULL, b A}");
        Bench.unsound("A ::= CHOICE {a NULL, ..., b A}");
        Bench.unsound("A ::= CHOICE {a NULL, b B} B ::= A");
        Bench.unsound("A ::= CHOICE {a NULL, b B} B ::= CHOICE {c A, d BOOLEAN}");
        Bench.unsound("A ::= CHOICE {a NULL, b CHOICE {c BOOLEAN, d CHOICE {e A}}}");
        Bench.unsound("A ::= CHOICE {a B} B ::= CHOICE {b C} C ::= CHOICE {c B}");
        Bench.sound("A ::= CHOICE {a [0] A}");
        Bench.sound("A ::= CHOICE {a NULL, b [0] B} B ::= A");
        Bench.sound("A ::= CHOICE {a NULL, b B} B ::= CHOICE {c [0] A, d BOOLEAN}");
        Bench.sound("A ::= CHOICE {a SEQUENCE OF A, b SET {c A}}");
        Bench.sound("A ::= CHOICE {a B} B ::= CHOICE {b C} C ::= CHOICE {c D} D ::= NULL");
        Bench.sound("D ::= NULL C ::= CHOICE {c D} B ::= CHOICE {b C} A ::= CHOICE {a B}");
        Bench.sound("A ::= CHOICE {a [UNIVERSAL 0] NULL} B ::= CHOICE {b A} C ::= CHOICE {c B}");
        Bench.sound(AUTOMATIC, "A ::= CHOICE {a A}");
        Bench.unsound(AUTOMATIC, "A ::= CHOICE {a A, b [0] NULL}");
        Bench.unsound(IMPLICIT, "A ::= CHOICE {a A, b NULL}");
    }

    private static void tags(String mode, String assignments, long... want) {
        SyntaxForge forge = new SyntaxForge();
        Kit.due(assignments, Kit.read(forge, "M DEFINITIONS " + mode + "::= BEGIN " + assignments + " END"), Integer.toString(want.length));
        for (int i = 0; i < want.length; i++) {
            Kit.due("tag(" + i + ") of " + assignments, forge.tag(i), want[i]);
        }
        Kit.due("tag behind the last", Kit.ask(() -> forge.tag(want.length)), Bench.BAD_NUMBER);
        Kit.due("tag before the first", Kit.ask(() -> forge.tag(-1)), Bench.BAD_NUMBER);
    }

    private static void universalNumbers() {
        Kit.sentence("Promise 7: The first TAG of TYPE t: class times 2^40, and its number more; -1 for a CHOICE without tag.");
        tags("", "A ::= BOOLEAN B ::= INTEGER C ::= BIT STRING D ::= OCTET STRING E ::= NULL F ::= OBJECT IDENTIFIER G ::= ENUMERATED {a} "
                + "H ::= UTF8String I ::= SEQUENCE {} J ::= SEQUENCE OF A K ::= SET {} L ::= SET OF A N ::= NumericString "
                + "O ::= PrintableString P ::= IA5String Q ::= VisibleString R ::= CHOICE {a NULL} S ::= R T ::= S U ::= A",
                1, 2, 3, 4, 5, 6, 10, 12, 16, 16, 17, 17, 18, 19, 22, 26, -1, -1, -1, 1);
        tags("", "A ::= [UNIVERSAL 0] NULL B ::= [APPLICATION 0] NULL C ::= [0] NULL D ::= [PRIVATE 0] NULL E ::= [UNIVERSAL 2147483647] NULL "
                + "F ::= [APPLICATION 2147483647] NULL G ::= [2147483647] NULL H ::= [PRIVATE 2147483647] NULL",
                0, 1L << 40, CONTEXT, 3L << 40, 2147483647L, (1L << 40) + 2147483647L, CONTEXT + 2147483647L, (3L << 40) + 2147483647L);
        tags("", "A ::= [3] CHOICE {a NULL} B ::= A C ::= [4] IMPLICIT A D ::= [5] EXPLICIT C E ::= CHOICE {a A} F ::= [6] E",
                CONTEXT + 3, CONTEXT + 3, CONTEXT + 4, CONTEXT + 5, -1, CONTEXT + 6);
        for (String mode : new String[] {"", EXPLICIT, IMPLICIT, AUTOMATIC}) {
            tags(mode, "A ::= [7] B B ::= [8] NULL C ::= B D ::= SEQUENCE {a NULL} E ::= CHOICE {a NULL}",
                    CONTEXT + 7, CONTEXT + 8, CONTEXT + 8, 16, -1);
        }
        tags("", "");
    }

    private static void encodes(String mode, String assignments, String value, String der) {
        new Bench(mode, assignments).der(0, value, der);
    }

    private static void implicitAndExplicit() {
        Kit.sentence("[n] IMPLICIT stands in place of the outermost TAG, EXPLICIT before it; without word: as the TEXT says (AUTOMATIC: IMPLICIT; none: EXPLICIT)");
        for (String mode : new String[] {"", EXPLICIT, IMPLICIT, AUTOMATIC}) {
            encodes(mode, "A ::= [1] IMPLICIT NULL", "NULL", "8100");
            encodes(mode, "A ::= [1] EXPLICIT NULL", "NULL", "a1020500");
            encodes(mode, "A ::= [1] NULL", "NULL", mode.isEmpty() || mode.equals(EXPLICIT) ? "a1020500" : "8100");
            encodes(mode, "A ::= [1] EXPLICIT B B ::= [2] IMPLICIT NULL", "NULL", "a1028200");
            encodes(mode, "A ::= [1] IMPLICIT B B ::= [2] EXPLICIT NULL", "NULL", "a1020500");
            encodes(mode, "A ::= [1] IMPLICIT B B ::= [2] IMPLICIT NULL", "NULL", "8100");
            encodes(mode, "A ::= [1] EXPLICIT B B ::= [2] EXPLICIT NULL", "NULL", "a104a2020500");
            encodes(mode, "A ::= [1] IMPLICIT SEQUENCE {}", "{}", "a100");
            encodes(mode, "A ::= [1] IMPLICIT SET OF NULL", "{}", "a100");
            Kit.sentence("of a CHOICE without tag always EXPLICIT.");
            encodes(mode, "A ::= [1] IMPLICIT CHOICE {a [9] IMPLICIT NULL}", "a:NULL", "a1028900");
            encodes(mode, "A ::= [1] EXPLICIT CHOICE {a [9] IMPLICIT NULL}", "a:NULL", "a1028900");
            encodes(mode, "A ::= [1] CHOICE {a [9] IMPLICIT NULL}", "a:NULL", "a1028900");
            encodes(mode, "A ::= [1] IMPLICIT B B ::= C C ::= CHOICE {a [9] IMPLICIT NULL}", "a:NULL", "a1028900");
            encodes(mode, "A ::= [1] IMPLICIT B B ::= [2] CHOICE {a [9] IMPLICIT NULL}", "a:NULL", "a1028900");
            encodes(mode, "A ::= [1] EXPLICIT B B ::= [2] CHOICE {a [9] IMPLICIT NULL}", "a:NULL", "a104a2028900");
            Kit.sentence("[n] IMPLICIT stands in place of the outermost TAG, EXPLICIT before it");
        }
    }

    private static void automaticTags() {
        Kit.sentence("AUTOMATIC: PARTS or ALTERNATIVES of one { }, none of which is written with a tag, get [0], [1], .. in order, EXTENSIONS too.");
        encodes(AUTOMATIC, "A ::= SEQUENCE {a NULL, b NULL}", "{a NULL, b NULL}", "300480008100");
        encodes(AUTOMATIC, "A ::= SEQUENCE {a NULL, ..., b NULL, c NULL}", "{a NULL, b NULL, c NULL}", "3006800081008200");
        encodes(AUTOMATIC, "A ::= SEQUENCE {..., a NULL}", "{a NULL}", "30028000");
        encodes(AUTOMATIC, "A ::= SET {a NULL, b NULL}", "{a NULL, b NULL}", "310480008100");
        encodes(AUTOMATIC, "A ::= CHOICE {a NULL, b NULL, ..., c NULL}", "c:NULL", "8200");
        encodes(AUTOMATIC, "A ::= SEQUENCE {a NULL, b [5] NULL}", "{a NULL, b NULL}", "300405008500");
        encodes(AUTOMATIC, "A ::= SEQUENCE {a NULL, b BOOLEAN, ..., c [5] NULL}", "{a NULL, b TRUE}", "300505000101ff");
        encodes(AUTOMATIC, "A ::= SEQUENCE {a B, b B} B ::= [5] NULL", "{a NULL, b NULL}", "300480008100");
        encodes(AUTOMATIC, "A ::= SEQUENCE {a CHOICE {b NULL}}", "{a b:NULL}", "3004a0028000");
        encodes(AUTOMATIC, "A ::= SEQUENCE {a SEQUENCE {b [7] NULL, c SEQUENCE {d NULL}}}", "{a {b NULL, c {d NULL}}}", "3008a006870030028000");
        encodes(AUTOMATIC, "A ::= SEQUENCE OF NULL", "{NULL}", "30020500");
        encodes(AUTOMATIC, "A ::= CHOICE {a CHOICE {b NULL, c NULL}, d CHOICE {b NULL}}", "d:b:NULL", "a1028000");
        encodes(AUTOMATIC, "A ::= SEQUENCE {a B} B ::= SEQUENCE {}", "{a {}}", "3002a000");
        Bench.unsound(AUTOMATIC, "A ::= CHOICE {a NULL, b NULL, c [5] NULL}");
        Bench.sound(AUTOMATIC, "A ::= CHOICE {a NULL, b NULL, c NULL}");
        Bench.unsound(IMPLICIT, "A ::= CHOICE {a NULL, b NULL}");
        Bench.unsound(EXPLICIT, "A ::= CHOICE {a NULL, b NULL}");
    }

    private static void tagsOfAlternatives() {
        Kit.sentence("The first TAGS of ALTERNATIVES (of CHOICES in them, theirs) are different");
        Bench.sound("A ::= CHOICE {a NULL, b BOOLEAN, c [5] NULL, d [APPLICATION 5] NULL, e [PRIVATE 5] NULL}");
        Bench.unsound("A ::= CHOICE {a NULL, b NULL}");
        Bench.unsound("A ::= CHOICE {a NULL, b BOOLEAN, c NULL}");
        Bench.unsound("A ::= CHOICE {a NULL, b [UNIVERSAL 5] BOOLEAN}");
        Bench.unsound("A ::= CHOICE {a [5] NULL, b [5] BOOLEAN}");
        Bench.unsound("A ::= CHOICE {a SEQUENCE {}, b SEQUENCE OF NULL}");
        Bench.unsound("A ::= CHOICE {a SET {}, b SET OF NULL}");
        Bench.unsound("A ::= CHOICE {a NULL, b CHOICE {c BOOLEAN, d NULL}}");
        Bench.unsound("A ::= CHOICE {a CHOICE {c BOOLEAN, d NULL}, b CHOICE {e NULL}}");
        Bench.unsound("A ::= CHOICE {a NULL, b CHOICE {c CHOICE {d CHOICE {e NULL}}}}");
        Bench.unsound("A ::= CHOICE {a NULL, b CHOICE {c BOOLEAN, ..., d NULL}}");
        Bench.sound("A ::= CHOICE {a NULL, b [0] CHOICE {c BOOLEAN, d NULL}}");
        Bench.sound("A ::= CHOICE {a NULL, b [0] IMPLICIT CHOICE {c BOOLEAN, d NULL}}");
        Bench.unsound("A ::= CHOICE {a [0] NULL, b B} B ::= [0] CHOICE {c NULL}");
        Bench.sound("A ::= CHOICE {a [0] NULL, b [1] NULL} B ::= CHOICE {a [0] NULL, b [1] NULL}");
        Bench.unsound("A ::= SEQUENCE OF CHOICE {a NULL, b NULL}");
        Bench.unsound("A ::= CHOICE {a [UNIVERSAL 0] NULL, b [UNIVERSAL 0] BOOLEAN}");
        Bench.unsound("A ::= CHOICE {a [UNIVERSAL 0] NULL, b CHOICE {c NULL, d [UNIVERSAL 0] BOOLEAN}}");
        Bench.sound("A ::= CHOICE {a [UNIVERSAL 0] NULL, b [APPLICATION 0] BOOLEAN, c [0] NULL}");
    }

    private static void tagsOfSets() {
        Kit.sentence("of a SET's PARTS, too");
        Bench.sound("A ::= SET {a NULL, b BOOLEAN, c [5] NULL}");
        Bench.unsound("A ::= SET {a NULL, b NULL}");
        Bench.unsound("A ::= SET {a NULL, b BOOLEAN, c NULL OPTIONAL}");
        Bench.unsound("A ::= SET {a NULL, b CHOICE {c BOOLEAN, d NULL}}");
        Bench.unsound("A ::= SET {a CHOICE {x NULL}, b CHOICE {c BOOLEAN, d NULL}}");
        Bench.unsound("A ::= SET {a NULL, ..., b NULL}");
        Bench.unsound("A ::= SET {..., a NULL, b NULL}");
        Bench.unsound("A ::= SET {a [UNIVERSAL 0] NULL, b [UNIVERSAL 0] BOOLEAN}");
    }

    private static void tagsOfSequences() {
        Kit.sentence("of a SEQUENCE's: of each OPTIONAL or DEFAULT one, and those behind it up to and with the first that is neither");
        Bench.sound("A ::= SEQUENCE {a NULL, b NULL, c NULL}");
        for (String marked : new String[] {"OPTIONAL", "DEFAULT NULL"}) {
            Bench.sound("A ::= SEQUENCE {a NULL, b NULL " + marked + "}");
            Bench.unsound("A ::= SEQUENCE {a NULL " + marked + ", b NULL}");
            Bench.unsound("A ::= SEQUENCE {a NULL " + marked + ", b NULL " + marked + "}");
            Bench.unsound("A ::= SEQUENCE {a NULL " + marked + ", b BOOLEAN OPTIONAL, c NULL}");
            Bench.unsound("A ::= SEQUENCE {a NULL " + marked + ", b BOOLEAN OPTIONAL, c INTEGER OPTIONAL, d NULL " + marked + "}");
            Bench.sound("A ::= SEQUENCE {a NULL " + marked + ", b BOOLEAN, c NULL}");
            Bench.sound("A ::= SEQUENCE {a NULL " + marked + ", b BOOLEAN, c NULL " + marked + "}");
            Bench.unsound("A ::= SEQUENCE {a NULL " + marked + ", b CHOICE {c BOOLEAN, d NULL}}");
            Bench.unsound("A ::= SEQUENCE {a BOOLEAN, b NULL " + marked + ", c NULL}");
        }
        Bench.unsound("A ::= SEQUENCE {a CHOICE {x BOOLEAN, y NULL} OPTIONAL, b CHOICE {c INTEGER, d NULL}}");
        Bench.sound("A ::= SEQUENCE {a CHOICE {x BOOLEAN, y NULL}, b CHOICE {c INTEGER, d NULL}}");
        Bench.unsound("A ::= SEQUENCE {a [UNIVERSAL 0] NULL OPTIONAL, b [UNIVERSAL 0] NULL}");
    }

    private static void tagsOfExtensions() {
        Kit.sentence("(EXTENSIONS are all like OPTIONAL ones)");
        Bench.sound("A ::= SEQUENCE {a NULL, ..., b NULL}");
        Bench.unsound("A ::= SEQUENCE {a NULL OPTIONAL, ..., b NULL}");
        Bench.unsound("A ::= SEQUENCE {a NULL, ..., b BOOLEAN, c BOOLEAN}");
        Bench.unsound("A ::= SEQUENCE {a NULL, ..., b BOOLEAN, c INTEGER, d BOOLEAN}");
        Bench.sound("A ::= SEQUENCE {a NULL OPTIONAL, b BOOLEAN, ..., c NULL}");
        Bench.unsound("A ::= SEQUENCE {a NULL, b BOOLEAN OPTIONAL, ..., c INTEGER, d BOOLEAN}");
        Bench bench = new Bench("A ::= SEQUENCE {a BOOLEAN, ..., b NULL, c INTEGER DEFAULT 5, d [0] NULL OPTIONAL}");
        Kit.sentence("EXTENSIONS may be left out as if OPTIONAL.");
        bench.der(0, "{a TRUE}", "30030101ff");
        bench.der(0, "{a TRUE, c 6}", "30060101ff020106");
        bench.der(0, "{a TRUE, b NULL, d NULL}", "30090101ff0500a0020500");
        bench.per(0, "{a TRUE}", "40");
        bench.none(0, "{b NULL}", 0);
        bench.none(0, "{}", 0);
    }

    private static void defaultsAreValues() {
        Kit.sentence("A DEFAULT is a VALUE of its TYPE");
        Bench.sound("A ::= SEQUENCE {a BOOLEAN DEFAULT TRUE, b NULL DEFAULT NULL, c INTEGER (0..5) DEFAULT 5, d ENUMERATED {x, ..., y} DEFAULT y, "
                + "e BIT STRING (SIZE (2)) DEFAULT '01'B, f OCTET STRING DEFAULT '00000001'B, g OBJECT IDENTIFIER DEFAULT {1 39}, "
                + "h UTF8String DEFAULT \"\", i NumericString (SIZE (1)) DEFAULT \"5\", j SEQUENCE OF NULL DEFAULT {}, k [0] SET SIZE (1) OF NULL DEFAULT {NULL}, "
                + "l [1] CHOICE {x NULL} DEFAULT x : NULL, m [2] SEQUENCE {x NULL OPTIONAL} DEFAULT {x NULL}}");
        Bench.unsound("A ::= SEQUENCE {a BOOLEAN DEFAULT 0}");
        Bench.unsound("A ::= SEQUENCE {a NULL DEFAULT TRUE}");
        Bench.unsound("A ::= SEQUENCE {a INTEGER (0..5) DEFAULT 6}");
        Bench.sound("A ::= SEQUENCE {a INTEGER (0..5, ...) DEFAULT 6}");
        Bench.unsound("A ::= SEQUENCE {a ENUMERATED {x} DEFAULT y}");
        Bench.unsound("A ::= SEQUENCE {a BIT STRING (SIZE (2)) DEFAULT '0'B}");
        Bench.unsound("A ::= SEQUENCE {a OCTET STRING DEFAULT '0'H}");
        Bench.unsound("A ::= SEQUENCE {a OBJECT IDENTIFIER DEFAULT {1 40}}");
        Bench.unsound("A ::= SEQUENCE {a NumericString DEFAULT \"x\"}");
        Bench.unsound("A ::= SEQUENCE {a SEQUENCE SIZE (1) OF NULL DEFAULT {}}");
        Bench.unsound("A ::= SEQUENCE {a SEQUENCE OF NULL DEFAULT {NULL, TRUE}}");
        Bench.unsound("A ::= SEQUENCE {a CHOICE {x NULL} DEFAULT y : NULL}");
        Bench.unsound("A ::= SEQUENCE {a CHOICE {x NULL} DEFAULT x : TRUE}");
        Bench.unsound("A ::= SEQUENCE {a SEQUENCE {x NULL} DEFAULT {}}");
        Bench.unsound("A ::= SET {..., a BOOLEAN DEFAULT 0}");
        Bench.unsound("A ::= SEQUENCE OF SEQUENCE {a BOOLEAN DEFAULT 0}");
        Bench.sound("A ::= SEQUENCE {a B DEFAULT 6} B ::= C C ::= [1] INTEGER");
    }

    private static void defaultsWait() {
        Kit.sentence("A DEFAULT is worked out behind those of all PARTS that are written in it; none waits for itself, however far.");
        Bench.sound("A ::= SEQUENCE {a A DEFAULT {}}");
        Bench.unsound("A ::= SEQUENCE {a A DEFAULT {a {}}}");
        Bench.unsound("A ::= SEQUENCE {a A DEFAULT {a {a {}}}}");
        Bench.sound("A ::= SEQUENCE {a B DEFAULT {b {}}} B ::= SEQUENCE {b A DEFAULT {}}");
        Bench.unsound("A ::= SEQUENCE {a B DEFAULT {b {}}} B ::= SEQUENCE {b A DEFAULT {a {}}}");
        Bench.unsound("A ::= SEQUENCE {a B DEFAULT {b {a {}}}} B ::= SEQUENCE {b A DEFAULT {}}");
        Bench.sound("A ::= SEQUENCE {a B DEFAULT {b {b {}}}} B ::= SEQUENCE {b B OPTIONAL}");
        Bench.unsound("A ::= SEQUENCE {a SEQUENCE OF A DEFAULT {{}, {a {}}}}");
        Bench.sound("A ::= SEQUENCE {a SEQUENCE OF A DEFAULT {{}, {}}}");
        Bench.unsound("A ::= SEQUENCE {a CHOICE {x A, y NULL} DEFAULT x : {a y : NULL}}");
        Bench.sound("A ::= SEQUENCE {a CHOICE {x A, y NULL} DEFAULT x : {}}");
        Bench.sound("A ::= SEQUENCE {a A DEFAULT {b 5}, b INTEGER DEFAULT 5}");
        Bench.unsound("A ::= SET {..., a A DEFAULT {a {}}}");
        encodes("", "A ::= SEQUENCE {a B DEFAULT {b 5}} B ::= SEQUENCE {b INTEGER DEFAULT 5}", "{}", "3000");
        Bench bench = new Bench("A ::= SEQUENCE {a B DEFAULT {b 5}} B ::= SEQUENCE {b INTEGER DEFAULT 5}");
        bench.encode(0, 0, "{a {}}", "3000");
        bench.encode(0, 0, "{a {b 5}}", "3000");
        bench.encode(0, 0, "{a {b 6}}", "30053003020106");
        StringBuilder far = new StringBuilder();
        for (int i = 0; i < 100; i++) {
            far.append("A").append(i).append("::=SEQUENCE{a A").append(i + 1).append(" DEFAULT{a{}}}");
        }
        Bench.sound(far + "A100::=SEQUENCE{a SEQUENCE{} OPTIONAL}");
        Bench.unsound(far + "A100::=SEQUENCE{a A0 DEFAULT{a{}}}");
        Bench.unsound(far + "A100::=SEQUENCE{a A99 DEFAULT{a{}}}");
        Bench.sound(far + "A100::=SEQUENCE{a A0 DEFAULT{}}");
    }

    private static void defaultsAreEqualByDer() {
        Kit.sentence("one that is there is it if its DER is the same.");
        Bench bench = new Bench("A ::= SEQUENCE {a BIT STRING DEFAULT 'A0'H, b [0] OCTET STRING DEFAULT '00001111'B, c SET OF INTEGER DEFAULT {3, 1, 2}, "
                + "d SEQUENCE OF INTEGER DEFAULT {3, 1, 2}, e BOOLEAN DEFAULT TRUE, f [1] SEQUENCE {x INTEGER DEFAULT 1} DEFAULT {}, "
                + "g [2] CHOICE {p NULL, q BOOLEAN} DEFAULT p : NULL, h UTF8String DEFAULT \"ab\", i [3] INTEGER DEFAULT 0, j NULL DEFAULT NULL, "
                + "k ENUMERATED {u, v} DEFAULT v, l OBJECT IDENTIFIER DEFAULT {2 40}}");
        bench.encode(0, 0, "{a '10100000'B, b '0F'H, c {1, 2, 3}, d {3, 1, 2}, e TRUE, f {x 1}, g p : NULL, h \"ab\", i -0, j NULL, k v, l {2 40}}", "3000");
        bench.encode(0, 1, "{a '10100000'B, b '0F'H, c {1, 2, 3}, d {3, 1, 2}, e TRUE, f {x 1}, g p : NULL, h \"ab\", i -0, j NULL, k v, l {2 40}}", "0000");
        bench.der(0, "{a '101'B}", "3004030205a0");
        bench.der(0, "{b '0F00'H}", "3006a00404020f00");
        bench.der(0, "{c {1, 2, 2}}", "300b3109020101020102020102");
        bench.der(0, "{d {1, 2, 3}}", "300b3009020101020102020103");
        bench.der(0, "{e FALSE}", "3003010100");
        bench.der(0, "{f {x 2}}", "3007a1053003020102");
        bench.der(0, "{g q:TRUE}", "3005a2030101ff");
        bench.der(0, "{h \"aB\"}", "30040c026142");
        bench.der(0, "{i 256}", "3006a30402020100");
        bench.der(0, "{k u}", "30030a0100");
        bench.der(0, "{l {2 41}}", "3003060179");
    }

    private static void defaultsOfRanges() {
        Kit.sentence("one that is there is it if its DER is the same (in PER, too)");
        Bench bench = new Bench(AUTOMATIC, "A ::= SEQUENCE {a INTEGER (0..7) DEFAULT 3, ..., b INTEGER (0..7) DEFAULT 3}");
        bench.encode(0, 1, "{a 3, b 3}", "00");
        bench.per(0, "{}", "00");
        bench.per(0, "{a 2}", "50");
        bench.encode(0, 1, "{a 3, b 2}", "80405000");
        bench.per(0, "{b 2}", "80405000");
        Kit.sentence("PER is decoded as it is encoded, but: a DEFAULT may be there");
        bench.decode(0, 1, "58", "{}");
        bench.decode(0, 1, "80405800", "{}");
    }

    /** What the PART without DEFAULT has as bytes, the PART with it has too, where it is there. */
    private static void defaultsThere() {
        Kit.sentence("one that is there is it if its DER is the same .. BER: A DEFAULT may be there .. PER: a DEFAULT may be there");
        String[][] cases = {{"BOOLEAN", "TRUE", "FALSE"}, {"BOOLEAN", "FALSE", "TRUE"}, {"INTEGER", "-5", "5"}, {"INTEGER (0..7)", "5", "4"},
            {"INTEGER (0..7, ...)", "9", "5"}, {"INTEGER (5..MAX)", "300", "301"}, {"ENUMERATED {x, y(300), ..., z}", "y", "x"},
            {"ENUMERATED {x, y(300), ..., z}", "z", "y"}, {"BIT STRING", "'1011'B", "'1010'B"}, {"BIT STRING", "'A5C'H", "'A5D'H"},
            {"BIT STRING (SIZE (9))", "'111111110'B", "'111111111'B"}, {"BIT STRING", "''B", "'0'B"}, {"OCTET STRING", "'A5C0'H", "'A5C1'H"},
            {"OBJECT IDENTIFIER", "{1 2 3}", "{1 2 4}"}, {"UTF8String", "\"abc\"", "\"abd\""}, {"NumericString", "\"0 9\"", "\"0 8\""},
            {"IA5String (SIZE (3))", "\"abc\"", "\"abb\""}, {"SEQUENCE OF INTEGER", "{1, 2}", "{2, 1}"}, {"SEQUENCE OF NULL", "{}", "{NULL}"},
            {"CHOICE {x NULL, y [0] BOOLEAN, ..., z [1] INTEGER}", "y:TRUE", "y:FALSE"}, {"CHOICE {x NULL, y [0] BOOLEAN, ..., z [1] INTEGER}", "z:7", "x:NULL"},
            {"SEQUENCE {x BOOLEAN OPTIONAL, y INTEGER}", "{y 5}", "{x TRUE, y 5}"}, {"SET {x BOOLEAN, y INTEGER, ..., z NULL}", "{x TRUE, y 5, z NULL}", "{x TRUE, y 5}"}};
        for (String[] c : cases) {
            Bench bench = new Bench("A ::= SEQUENCE {a " + c[0] + " DEFAULT " + c[1] + "} B ::= SEQUENCE {a " + c[0] + " OPTIONAL} C ::= SEQUENCE {..., a "
                    + c[0] + " DEFAULT " + c[1] + "} D ::= SEQUENCE {..., a " + c[0] + "}");
            SyntaxForge forge = bench.ready();
            String ber = Kit.encode(forge, 1, 0, "{a " + c[1] + "}");
            String per = Kit.encode(forge, 1, 1, "{a " + c[1] + "}");
            String behind = Kit.encode(forge, 3, 1, "{a " + c[1] + "}");
            bench.encode(0, 0, "{a " + c[1] + "}", "3000");
            bench.encode(0, 1, "{a " + c[1] + "}", "00");
            bench.encode(2, 1, "{a " + c[1] + "}", "00");
            bench.onlyBer(0, ber, "{}");
            bench.onlyBer(2, ber, "{}");
            bench.decode(0, 1, per, "{}");
            bench.decode(2, 1, behind, "{}");
            String other = Kit.encode(forge, 1, 0, "{a " + c[2] + "}");
            bench.encode(0, 0, "{a " + c[2] + "}", other);
            bench.decode(0, 0, other, Kit.decode(forge, 1, 0, Kit.hex(other)));
            String otherPer = Kit.encode(forge, 1, 1, "{a " + c[2] + "}");
            bench.encode(0, 1, "{a " + c[2] + "}", otherPer);
            bench.decode(0, 1, otherPer, Kit.decode(forge, 1, 1, Kit.hex(otherPer)));
        }
    }

    private static void syntaxBeforeSound() {
        Kit.sentence("Promise 4: SYNTAX is broken: UnsupportedOperationException, PLACE is told; it is not SOUND: ArithmeticException");
        Bench.broken("A ::= A B ::= ;", 14);
        Bench.broken("A ::= [2147483648] NULL A ::= NULL }", 35);
        Bench.broken("A ::= INTEGER (6..5) ;", 21);
        Bench.broken("A ::= SEQUENCE {a BOOLEAN DEFAULT 5, a B} ;", 42);
    }

    private static void theTextFromNowOn() {
        Kit.sentence("Promise 4: The TAPE is the TEXT from now on. .. the TEXT before stays.");
        SyntaxForge forge = new SyntaxForge();
        Kit.due("unsound first", Kit.read(forge, "M DEFINITIONS ::= BEGIN A ::= B END"), Bench.UNSOUND);
        Kit.due("no TEXT", Kit.ask(() -> forge.tag(0)), Bench.NO_TEXT);
        Kit.due("one", Kit.read(forge, "M DEFINITIONS ::= BEGIN A ::= SEQUENCE {a INTEGER DEFAULT 5} END"), "1");
        Kit.due("its DEFAULT", Kit.encode(forge, 0, 0, "{a 5}"), "3000");
        Kit.due("unsound", Kit.read(forge, "M DEFINITIONS ::= BEGIN A ::= SEQUENCE {a INTEGER DEFAULT 6, b B} END"), Bench.UNSOUND);
        Kit.due("the DEFAULT before", Kit.encode(forge, 0, 0, "{a 5}"), "3000");
        Kit.due("broken", Kit.read(forge, "M DEFINITIONS ::= BEGIN A ::= SEQUENCE {a INTEGER DEFAULT 6, b 5} END"), Bench.NONE);
        Kit.due("the DEFAULT before", Kit.encode(forge, 0, 0, "{a 5}"), "3000");
        Kit.due("the ID before", Kit.decode(forge, 0, 0, Kit.hex("3003020106")), "{a 6}");
        Kit.due("another", Kit.read(forge, "M DEFINITIONS ::= BEGIN B ::= NULL A ::= SEQUENCE {b INTEGER DEFAULT 6} END"), "2");
        Kit.due("its first", forge.tag(0), 5L);
        Kit.due("its DEFAULT", Kit.encode(forge, 1, 0, "{b 6}"), "3000");
        Kit.due("no ID of the one before", Kit.encode(forge, 1, 0, "{a 5}"), Bench.NONE + "@0");
        Kit.due("again the first", Kit.read(forge, "M DEFINITIONS ::= BEGIN A ::= SEQUENCE {a INTEGER DEFAULT 5} END"), "1");
        Kit.due("its DEFAULT", Kit.encode(forge, 0, 0, "{a 5}"), "3000");
        Kit.due("its DEFAULT", Kit.encode(forge, 0, 0, "{a 6}"), "3003020106");
    }
}
