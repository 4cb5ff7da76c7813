/** Promises 4 and 7: SYNTAX and its PLACE, SOUND, TAGS. */
final class ReadTest {
    private static final String BROKEN = "UnsupportedOperationException";
    private static final String UNSOUND = "ArithmeticException";

    private ReadTest() {
    }

    public static void main(String[] args) {
        wholeTexts();
        tokens();
        brokenTypes();
        brokenValues();
        depths();
        names();
        numbers();
        tagsDiffer();
        choiceRings();
        defaults();
        firstTags();
        theTextBefore();
        Kit.finish();
    }

    /** The answer, and the PLACE if one is told. */
    private static String answer(String text) {
        SyntaxForge forge = new SyntaxForge();
        String answer = Kit.read(forge, text);
        Kit.due("the tape is read: " + text, forge.count(0), 0);
        return forge.count(3) < 0 ? answer : answer + "@" + forge.count(3);
    }

    private static void whole(String text, String want) {
        Kit.due(text, answer(text), want);
    }

    /** Assignments between BEGIN and END; a PLACE is told from the first of them on. */
    private static void within(String mode, String assignments, String want) {
        String head = "M DEFINITIONS " + mode + "::= BEGIN ";
        String answer = answer(head + assignments + " END");
        int at = answer.indexOf('@');
        if (at >= 0) {
            answer = answer.substring(0, at + 1) + (Integer.parseInt(answer.substring(at + 1)) - head.length());
        }
        Kit.due(assignments, answer, want);
    }

    private static void sound(String assignments) {
        within("", assignments + " Last ::= NULL", Integer.toString(assignments.split("::=").length));
    }

    private static void unsound(String assignments) {
        within("", assignments, UNSOUND);
    }

    private static void broken(String assignments, int place) {
        within("", assignments, BROKEN + "@" + place);
    }

    private static void wholeTexts() {
        whole("", BROKEN + "@0");
        whole("  ", BROKEN + "@2");
        whole("m DEFINITIONS ::= BEGIN END", BROKEN + "@0");
        whole("END DEFINITIONS ::= BEGIN END", BROKEN + "@0");
        whole("M", BROKEN + "@1");
        whole("M -- and no more", BROKEN + "@16");
        whole("M DEFINITION ::= BEGIN END", BROKEN + "@2");
        whole("M DEFINITIONS ::= BEGIN END", "0");
        whole("M DEFINITIONS::=BEGIN END", "0");
        whole("\tM\r\nDEFINITIONS ::= BEGIN\nEND\n", "0");
        whole("M DEFINITIONS EXPLICIT TAGS ::= BEGIN END", "0");
        whole("M DEFINITIONS IMPLICIT TAGS ::= BEGIN END", "0");
        whole("M DEFINITIONS AUTOMATIC TAGS ::= BEGIN END", "0");
        whole("M DEFINITIONS AUTOMATIC ::= BEGIN END", BROKEN + "@24");
        whole("M DEFINITIONS TAGS ::= BEGIN END", BROKEN + "@14");
        whole("M DEFINITIONS := BEGIN END", BROKEN + "@14");
        whole("M DEFINITIONS ::= END", BROKEN + "@18");
        whole("M DEFINITIONS ::= BEGIN", BROKEN + "@23");
        whole("M DEFINITIONS ::= BEGIN END END", BROKEN + "@28");
        whole("M DEFINITIONS ::= BEGIN END -- behind", "0");
        whole("M DEFINITIONS ::= BEGIN M ::= NULL END", "1");
        whole("M DEFINITIONS ::= BEGIN A ::= NULL B ::= A C ::= B END", "3");
        whole("M DEFINITIONS ::= BEGIN a ::= NULL END", BROKEN + "@24");
        whole("M DEFINITIONS ::= BEGIN A NULL END", BROKEN + "@26");
        whole("M DEFINITIONS ::= BEGIN A ::= END", BROKEN + "@30");
        whole("M DEFINITIONS ::= BEGIN NULL ::= NULL END", BROKEN + "@24");
    }

    private static void tokens() {
        within("", "A-b1 ::= NULL", "1");
        within("", "A- ::= NULL", BROKEN + "@1");
        within("", "A--b-- ::= NULL", "1");
        within("", "A--b\n::= NULL", "1");
        within("", "A ---- ::= NULL", "1");
        within("", "A --- ::= NULL\n::= NULL", "1");
        within("", "A::=--x--NULL", "1");
        broken("A ::= NULL \u0080", 11);
        broken("A ::= NULL \u0000", 11);
        broken("A ::= NULL ;", 11);
        broken("A ::= NULL .", 11);
        broken("A : := NULL", 2);
        broken("A :: = NULL", 2);
        broken("A ::= INTEGER (00)", 15);
        broken("A ::= INTEGER (012)", 15);
        sound("A ::= INTEGER (0)");
        sound("A ::= INTEGER (9223372036854775807)");
        sound("A ::= INTEGER (-9223372036854775807)");
        broken("A ::= INTEGER (9223372036854775808)", 15);
        broken("A ::= INTEGER (-9223372036854775808)", 16);
        broken("A ::= INTEGER (99999999999999999999)", 15);
        sound("A ::= INTEGER (0..5,...)");
        broken("A ::= INTEGER (0....)", 16);
        sound("A ::= INTEGER (1..2) --(--");
        within("", "SEQUENCES ::= NULL INTEGERx ::= SEQUENCES ABC ::= INTEGERx", "3");
        unsound("A ::= Integer");
        broken("A ::= boolean", 6);
        unsound("A ::= Boolean");
    }

    private static void brokenTypes() {
        broken("A ::= INTEGER (MIN)", 18);
        broken("A ::= INTEGER (MAX)", 15);
        broken("A ::= INTEGER ()", 15);
        broken("A ::= INTEGER (1..MIN)", 18);
        broken("A ::= INTEGER (1..)", 18);
        broken("A ::= INTEGER (1..2, 3)", 21);
        broken("A ::= INTEGER (1..2 ...)", 20);
        broken("A ::= INTEGER (- -1)", 17);
        broken("A ::= INTEGER (SIZE (1))", 15);
        sound("A ::= INTEGER (MIN..MAX) B ::= INTEGER (-5..MAX, ...) C ::= INTEGER (MIN..-5) D ::= INTEGER (-5, ...)");
        broken("A ::= BIT", 10);
        broken("A ::= BIT OCTET", 10);
        broken("A ::= OCTET STRING (1)", 20);
        broken("A ::= OCTET STRING SIZE (1)", 19);
        broken("A ::= OCTET STRING (SIZE 1)", 25);
        broken("A ::= OCTET STRING (SIZE (-1))", 26);
        broken("A ::= OCTET STRING (SIZE (MIN..1))", 26);
        broken("A ::= OCTET STRING (SIZE (1..-1))", 29);
        broken("A ::= OCTET STRING (SIZE (1)", 29);
        sound("A ::= OCTET STRING (SIZE (1)) B ::= BIT STRING (SIZE (1..MAX, ...)) C ::= IA5String (SIZE (1..2))");
        broken("A ::= UTF8String (SIZE (1))", 17);
        broken("A ::= OBJECT", 13);
        sound("A ::= OBJECT IDENTIFIER");
        broken("A ::= SEQUENCE", 15);
        broken("A ::= SEQUENCE (SIZE (1)) OF NULL", 15);
        broken("A ::= SEQUENCE SIZE (1) NULL", 24);
        sound("A ::= SEQUENCE SIZE (1) OF NULL B ::= SET SIZE (1..MAX, ...) OF SET OF B");
        sound("A ::= SEQUENCE {} B ::= SET {...} C ::= SEQUENCE {..., a NULL} D ::= SET {a NULL, ...}");
        broken("A ::= SEQUENCE {,}", 16);
        broken("A ::= SEQUENCE {a NULL,}", 23);
        broken("A ::= SEQUENCE {..., ...}", 21);
        broken("A ::= SEQUENCE {..., a NULL, ...}", 29);
        broken("A ::= SEQUENCE {a}", 17);
        broken("A ::= SEQUENCE {A NULL}", 16);
        broken("A ::= SEQUENCE {a NULL OPTIONAL DEFAULT NULL}", 32);
        broken("A ::= SEQUENCE {a NULL DEFAULT}", 30);
        broken("A ::= SEQUENCE {a NULL", 23);
        broken("A ::= CHOICE {}", 14);
        broken("A ::= CHOICE {...}", 14);
        broken("A ::= CHOICE {..., a NULL}", 14);
        broken("A ::= CHOICE {a NULL OPTIONAL}", 21);
        broken("A ::= CHOICE {a NULL, ..., ...}", 27);
        sound("A ::= CHOICE {a NULL, ...} B ::= CHOICE {a NULL, ..., b BOOLEAN}");
        broken("A ::= ENUMERATED {}", 18);
        broken("A ::= ENUMERATED {...}", 18);
        broken("A ::= ENUMERATED {a, ..., }", 26);
        broken("A ::= ENUMERATED {a, ..., ...}", 26);
        broken("A ::= ENUMERATED {a()}", 20);
        broken("A ::= ENUMERATED {a(1}", 21);
        broken("A ::= ENUMERATED {B}", 18);
        broken("A ::= ENUMERATED {a NULL}", 20);
        sound("A ::= ENUMERATED {a} B ::= ENUMERATED {a(-1), ...} C ::= ENUMERATED {a, ..., b, c(7)}");
        broken("A ::= [1] [2] NULL", 10);
        broken("A ::= [] NULL", 7);
        broken("A ::= [-1] NULL", 7);
        broken("A ::= [CONTEXT 1] NULL", 7);
        broken("A ::= [UNIVERSAL] NULL", 16);
        broken("A ::= [1] IMPLICIT EXPLICIT NULL", 19);
        broken("A ::= IMPLICIT NULL", 6);
        sound("A ::= [1] NULL B ::= [UNIVERSAL 1] IMPLICIT NULL C ::= [APPLICATION 1] EXPLICIT NULL D ::= [PRIVATE 0] A");
        broken("A ::= B (1)", 8);
    }

    private static void brokenValues() {
        broken("A ::= SEQUENCE {a NULL DEFAULT {}", 34);
        broken("A ::= SEQUENCE {a NULL DEFAULT {,}}", 32);
        broken("A ::= SEQUENCE {a NULL DEFAULT {a 1, 2}}", 37);
        broken("A ::= SEQUENCE {a NULL DEFAULT {1 2, 3}}", 35);
        broken("A ::= SEQUENCE {a NULL DEFAULT {1 -2}}", 34);
        broken("A ::= SEQUENCE {a NULL DEFAULT b :}", 34);
        broken("A ::= SEQUENCE {a NULL DEFAULT B}", 31);
        broken("A ::= SEQUENCE {a NULL DEFAULT MAX}", 31);
        broken("A ::= SEQUENCE {a NULL DEFAULT \"x}", 31);
        broken("A ::= SEQUENCE {a NULL DEFAULT '01'}", 31);
        broken("A ::= SEQUENCE {a NULL DEFAULT '01' B}", 31);
        broken("A ::= SEQUENCE {a NULL DEFAULT '2'B}", 31);
        broken("A ::= SEQUENCE {a NULL DEFAULT 'G'H}", 31);
        broken("A ::= SEQUENCE {a NULL DEFAULT 1 2}", 33);
    }

    private static void depths() {
        sound("A ::= " + "SEQUENCE OF ".repeat(59) + "NULL");
        broken("A ::= " + "SEQUENCE OF ".repeat(60) + "NULL", 6 + 60 * 12);
        broken("A ::= " + "SEQUENCE OF ".repeat(60) + "[1] NULL", 6 + 60 * 12);
        sound("A ::= " + "SEQUENCE {a ".repeat(59) + "NULL" + "}".repeat(59));
        broken("A ::= " + "SEQUENCE {a ".repeat(60) + "NULL" + "}".repeat(60), 6 + 60 * 12);
        String deep = "S ::= SEQUENCE OF S A ::= SEQUENCE {a S DEFAULT ";
        sound(deep + "{".repeat(60) + "}".repeat(60) + "}");
        broken(deep + "{".repeat(61) + "}".repeat(61) + "}", deep.length() + 60);
        String chosen = "S ::= CHOICE {a [0] S, b NULL} A ::= SEQUENCE {a S DEFAULT ";
        sound(chosen + "a:".repeat(59) + "b:NULL}");
        broken(chosen + "a:".repeat(60) + "b:NULL}", chosen.length() + 121);
        String both = "S ::= " + "SEQUENCE {a ".repeat(58) + "T DEFAULT " + "{".repeat(60) + "}".repeat(60) + "}".repeat(58);
        sound(both + " T ::= SEQUENCE OF T");
    }

    private static void names() {
        unsound("A ::= B");
        unsound("A ::= SEQUENCE OF B");
        unsound("A ::= NULL A ::= NULL");
        unsound("A ::= NULL B ::= NULL A ::= B");
        unsound("A ::= A");
        unsound("A ::= [1] A");
        unsound("A ::= B B ::= C C ::= A");
        unsound("A ::= NULL B ::= [1] C C ::= [2] B");
        sound("A ::= B B ::= NULL");
        sound("A ::= SEQUENCE {a A} B ::= SET OF B");
        unsound("A ::= SEQUENCE {a NULL, a BOOLEAN}");
        unsound("A ::= SEQUENCE {a NULL, ..., a BOOLEAN}");
        unsound("A ::= CHOICE {a NULL, a BOOLEAN}");
        unsound("A ::= ENUMERATED {a, a}");
        unsound("A ::= ENUMERATED {a, ..., a}");
        sound("A ::= SEQUENCE {a SEQUENCE {a NULL}, b SET {a NULL}}");
        StringBuilder row = new StringBuilder();
        for (int i = 0; i < 400; i++) {
            row.append("A").append(i).append(" ::= [1] A").append(i + 1).append(' ');
        }
        sound(row + "A400 ::= NULL");
        unsound(row + "A400 ::= A0");
    }

    private static void numbers() {
        unsound("A ::= INTEGER (1..0)");
        unsound("A ::= INTEGER (1..0, ...)");
        unsound("A ::= INTEGER (-1..-2)");
        sound("A ::= INTEGER (-1..-1)");
        unsound("A ::= BIT STRING (SIZE (2..1))");
        unsound("A ::= SEQUENCE SIZE (2..1) OF NULL");
        unsound("A ::= SEQUENCE {a SET OF INTEGER (1..0)}");
        sound("A ::= [2147483647] NULL");
        unsound("A ::= [2147483648] NULL");
        unsound("A ::= [PRIVATE 9223372036854775807] NULL");
        unsound("A ::= ENUMERATED {a(1), b(1)}");
        sound("A ::= ENUMERATED {a(1), b, c(0)}");
        unsound("A ::= ENUMERATED {a(1), ..., b(1)}");
        unsound("A ::= ENUMERATED {a, ..., b(0)}");
        sound("A ::= ENUMERATED {a(5), ..., b(0), c(3), d}");
        unsound("A ::= ENUMERATED {a(5), ..., b(3), c(2)}");
        unsound("A ::= ENUMERATED {a(5), ..., b, c(6)}");
        sound("A ::= ENUMERATED {a(5), ..., b, c(7)}");
    }

    private static void tagsDiffer() {
        unsound("A ::= CHOICE {a INTEGER, b INTEGER}");
        unsound("A ::= CHOICE {a INTEGER, ..., b INTEGER}");
        unsound("A ::= CHOICE {a INTEGER, b [UNIVERSAL 2] NULL}");
        unsound("A ::= CHOICE {a SEQUENCE {}, b SEQUENCE OF NULL}");
        sound("A ::= CHOICE {a INTEGER, b [0] INTEGER, c [APPLICATION 0] INTEGER, d [PRIVATE 0] INTEGER}");
        unsound("A ::= CHOICE {a INTEGER, b CHOICE {c NULL, d INTEGER}}");
        unsound("A ::= CHOICE {a INTEGER, b B} B ::= C C ::= CHOICE {c NULL, d INTEGER}");
        sound("A ::= CHOICE {a INTEGER, b [1] B} B ::= CHOICE {c NULL, d INTEGER}");
        unsound("A ::= SET {a INTEGER, b INTEGER}");
        unsound("A ::= SET {a INTEGER, b NULL, c CHOICE {d NULL}}");
        unsound("A ::= SET {a INTEGER, ..., b INTEGER}");
        sound("A ::= SEQUENCE {a INTEGER, b INTEGER}");
        unsound("A ::= SEQUENCE {a INTEGER OPTIONAL, b INTEGER}");
        unsound("A ::= SEQUENCE {a INTEGER DEFAULT 1, b INTEGER}");
        unsound("A ::= SEQUENCE {a INTEGER OPTIONAL, b NULL OPTIONAL, c INTEGER OPTIONAL}");
        sound("A ::= SEQUENCE {a INTEGER OPTIONAL, b NULL, c INTEGER OPTIONAL, d NULL}");
        unsound("A ::= SEQUENCE {a INTEGER OPTIONAL, b CHOICE {c NULL, d INTEGER}}");
        unsound("A ::= SEQUENCE {a NULL, ..., b INTEGER, c INTEGER}");
        unsound("A ::= SEQUENCE {a NULL OPTIONAL, ..., b INTEGER, c NULL}");
        sound("A ::= SEQUENCE {a NULL, ..., b INTEGER, c NULL}");
        within("AUTOMATIC TAGS ", "A ::= CHOICE {a INTEGER, b INTEGER, ..., c INTEGER}", "1");
        within("AUTOMATIC TAGS ", "A ::= SET {a INTEGER, b INTEGER OPTIONAL, ..., c INTEGER}", "1");
        within("AUTOMATIC TAGS ", "A ::= SET {a INTEGER, b [0] INTEGER, c INTEGER}", UNSOUND);
        within("AUTOMATIC TAGS ", "A ::= SET {a INTEGER, ..., b INTEGER, c [0] NULL}", UNSOUND);
        within("AUTOMATIC TAGS ", "B ::= [5] INTEGER A ::= CHOICE {a B, b B}", "2");
        within("IMPLICIT TAGS ", "A ::= CHOICE {a INTEGER, b INTEGER}", UNSOUND);
    }

    private static void choiceRings() {
        unsound("A ::= CHOICE {a A}");
        unsound("A ::= CHOICE {a NULL, b B} B ::= CHOICE {c C} C ::= A");
        unsound("A ::= CHOICE {a NULL, b CHOICE {c A}}");
        sound("A ::= CHOICE {a [0] A}");
        sound("A ::= CHOICE {a [0] A, b NULL, c SEQUENCE OF A}");
        sound("A ::= [1] CHOICE {a A, b NULL}");
        sound("A ::= CHOICE {a [0] CHOICE {b A}}");
        within("AUTOMATIC TAGS ", "A ::= CHOICE {a A}", "1");
        StringBuilder row = new StringBuilder();
        for (int i = 0; i < 300; i++) {
            row.append("A").append(i).append(" ::= CHOICE {a A").append(i + 1).append("} ");
        }
        sound(row + "A300 ::= NULL");
        unsound(row + "A300 ::= A7");
    }

    private static void defaults() {
        unsound("A ::= SEQUENCE {a INTEGER DEFAULT TRUE}");
        unsound("A ::= SEQUENCE {a INTEGER (0..3) DEFAULT 4}");
        sound("A ::= SEQUENCE {a INTEGER (0..3, ...) DEFAULT 4}");
        unsound("A ::= SEQUENCE {a ENUMERATED {x} DEFAULT y}");
        sound("A ::= SET {a ENUMERATED {x, ..., y} DEFAULT y}");
        unsound("A ::= SEQUENCE {a SEQUENCE {b NULL} DEFAULT {}}");
        sound("A ::= SEQUENCE {a SEQUENCE {b NULL} DEFAULT {b NULL}}");
        sound("A ::= SEQUENCE {a A DEFAULT {}}");
        unsound("A ::= SEQUENCE {a A DEFAULT {a {}}}");
        sound("A ::= SEQUENCE {a B DEFAULT {b {}}} B ::= SEQUENCE {b A DEFAULT {}}");
        unsound("A ::= SEQUENCE {a B DEFAULT {b {}}} B ::= SEQUENCE {b A DEFAULT {a {}}}");
        unsound("A ::= SEQUENCE {a B DEFAULT {b {}}} B ::= SEQUENCE {b C DEFAULT {c {}}} C ::= SEQUENCE {c A DEFAULT {a {}}}");
        sound("A ::= SEQUENCE {a SET OF A DEFAULT {}, b SEQUENCE OF B DEFAULT {{c 1}, {}}} B ::= SEQUENCE {c INTEGER DEFAULT 1}");
        StringBuilder row = new StringBuilder();
        for (int i = 0; i < 200; i++) {
            row.append("A").append(i).append("::=SEQUENCE{a A").append(i + 1).append(" DEFAULT{a{}}}");
        }
        sound(row + "A200 ::= SEQUENCE {a A200 OPTIONAL}");
        unsound(row + "A200 ::= SEQUENCE {a A0 DEFAULT {a {}}}");
    }

    private static void tags(String mode, String assignments, long... want) {
        SyntaxForge forge = new SyntaxForge();
        Kit.due(assignments, Kit.read(forge, "M DEFINITIONS " + mode + "::= BEGIN " + assignments + " END"),
                Integer.toString(want.length));
        for (int i = 0; i < want.length; i++) {
            Kit.due("tag " + i + " of " + assignments, forge.tag(i), want[i]);
        }
        Kit.due("tag behind", Kit.ask(() -> forge.tag(want.length)), "IllegalArgumentException");
        Kit.due("tag before", Kit.ask(() -> forge.tag(-1)), "IllegalArgumentException");
    }

    private static void firstTags() {
        tags("", "A ::= BOOLEAN B ::= INTEGER C ::= BIT STRING D ::= OCTET STRING E ::= NULL "
                + "F ::= OBJECT IDENTIFIER G ::= ENUMERATED {a} H ::= UTF8String I ::= SEQUENCE {} J ::= SEQUENCE OF A "
                + "K ::= SET {} L ::= SET OF A N ::= NumericString O ::= PrintableString P ::= IA5String "
                + "Q ::= VisibleString R ::= CHOICE {a NULL} S ::= R",
                1, 2, 3, 4, 5, 6, 10, 12, 16, 16, 17, 17, 18, 19, 22, 26, -1, -1);
        long context = 2L << 40;
        tags("", "A ::= [0] NULL B ::= [UNIVERSAL 7] A C ::= [APPLICATION 2147483647] B D ::= [PRIVATE 9] IMPLICIT C E ::= D "
                + "F ::= [4] CHOICE {a NULL} G ::= [5] IMPLICIT F",
                context, 7, (1L << 40) + 2147483647, (3L << 40) + 9, (3L << 40) + 9, context + 4, context + 5);
        tags("AUTOMATIC TAGS ", "A ::= SEQUENCE {a NULL} B ::= [3] A", 16, context + 3);
    }

    private static void theTextBefore() {
        SyntaxForge forge = new SyntaxForge();
        Kit.due("first", Kit.read(forge, "M DEFINITIONS ::= BEGIN A ::= NULL B ::= [1] SEQUENCE {a A DEFAULT NULL} END"), "2");
        Kit.due("broken", Kit.read(forge, "M DEFINITIONS ::= BEGIN A ::= BOOLEAN"), BROKEN);
        Kit.due("types", forge.count(2), 2);
        Kit.due("value", Kit.encode(forge, 1, 0, "{a NULL}"), "a1023000");
        Kit.due("unsound", Kit.read(forge, "M DEFINITIONS ::= BEGIN A ::= BOOLEAN B ::= C END"), UNSOUND);
        Kit.due("tag", forge.tag(0), 5L);
        Kit.due("value", Kit.encode(forge, 1, 0, "{a NULL}"), "a1023000");
        Kit.due("second", Kit.read(forge, "M DEFINITIONS ::= BEGIN A ::= BOOLEAN END"), "1");
        Kit.due("tag", forge.tag(0), 1L);
        Kit.due("unsound", Kit.read(forge, "M DEFINITIONS ::= BEGIN A ::= A END"), UNSOUND);
        Kit.due("third", Kit.read(forge, "M DEFINITIONS ::= BEGIN B ::= A A ::= INTEGER END"), "2");
        Kit.due("tag", forge.tag(0), 2L);
        Kit.due("value", Kit.encode(forge, 0, 0, "7"), "020107");
    }
}
