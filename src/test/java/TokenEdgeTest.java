/** The edges of TOKENS, of TEXT and VALUE, and of SYNTAX with its PLACE (promises 4 and 5), sentence by sentence. */
final class TokenEdgeTest {
    private static final int NULL = 0;
    private static final int INTEGER = 1;
    private static final int ITEM = 2;
    private static final int UTF8 = 3;
    private static final int BITS = 4;
    private static final int BYTES = 5;
    private static final int LIST = 6;
    private static final int CHOSEN = 7;
    private static final int SETS = 8;
    private static final int OBJECT = 9;
    private static final String[] KEPT = {"DEFINITIONS", "EXPLICIT", "IMPLICIT", "AUTOMATIC", "TAGS", "BEGIN", "END", "UNIVERSAL",
        "APPLICATION", "PRIVATE", "INTEGER", "ENUMERATED", "BIT", "STRING", "OCTET", "OBJECT", "IDENTIFIER", "SEQUENCE", "SET", "OF",
        "CHOICE", "SIZE", "OPTIONAL", "DEFAULT", "BOOLEAN", "TRUE", "FALSE", "NULL", "MIN", "MAX", "UTF8String", "PrintableString",
        "IA5String", "NumericString", "VisibleString"};

    private static Bench bench;

    private TokenEdgeTest() {
    }

    public static void main(String[] args) {
        bench = new Bench("N ::= NULL I ::= INTEGER E ::= ENUMERATED {a, a-b, a1, a-1-b2, aB, b, true} S ::= UTF8String "
                + "B ::= BIT STRING O ::= OCTET STRING L ::= SEQUENCE OF L C ::= CHOICE {a [0] C, b NULL, l [1] L} "
                + "P ::= SEQUENCE {a P OPTIONAL, c C OPTIONAL} J ::= OBJECT IDENTIFIER");
        blanks();
        comments();
        words();
        numbers();
        strings();
        bitsAndHex();
        signs();
        keptWords();
        prefixesOfTexts();
        ranges();
        sizes();
        dotsOfParts();
        dotsOfAlternatives();
        dotsOfItems();
        oneTagAtMost();
        whichBrace();
        prefixesOfValues();
        sixtyBraces();
        sixtyColons();
        sixtyTypes();
        sixtyOfEach();
        placeAtTheEnd();
        Kit.finish();
    }

    private static void blanks() {
        Kit.sentence("Blanks are the bytes 9, 10, 13, 32");
        for (int c : new int[] {9, 10, 13, 32}) {
            bench.encode(NULL, 0, (char) c + "NULL" + (char) c, "0500");
            Bench.read("M" + (char) c + "DEFINITIONS" + (char) c + "::=BEGIN" + (char) c + "END" + (char) c, "0");
        }
        for (int c : new int[] {0, 1, 8, 11, 12, 14, 31, 33, 127, 128, 160, 255}) {
            bench.none(NULL, (char) c + "NULL", 0);
            bench.none(NULL, "NULL" + (char) c, 4);
            Bench.read("M" + (char) c + "DEFINITIONS ::= BEGIN END", Bench.NONE + "@1");
        }
        Kit.sentence("Blanks: none is needed between TOKENS that are two without");
        Bench.sound("A::=SEQUENCE{a[0]INTEGER(0..5)OPTIONAL,b NULL}");
    }

    private static void comments() {
        Kit.sentence("-- and all up to the next --, 10 or the end is one.");
        bench.encode(NULL, 0, "--x--NULL", "0500");
        bench.encode(NULL, 0, "NULL--", "0500");
        bench.encode(NULL, 0, "NULL--x", "0500");
        bench.encode(NULL, 0, "NULL--x-", "0500");
        bench.encode(NULL, 0, "----NULL", "0500");
        bench.encode(NULL, 0, "--x\nNULL", "0500");
        bench.encode(NULL, 0, "--x - y ' \" { \u0000 \u00ff--NULL", "0500");
        bench.encode(NULL, 0, "--x--\n--y\n--z--NULL--", "0500");
        bench.none(NULL, "---NULL", 7);
        bench.none(NULL, "--x-NULL", 8);
        bench.none(NULL, "--x\rNULL", 8);
        bench.none(NULL, "--x--y--NULL", 5);
        bench.encode(INTEGER, 0, "-----5", "0201fb");
        bench.encode(INTEGER, 0, "- --x-- 5", "0201fb");
        bench.encode(INTEGER, 0, "---x--5", "020105");
        bench.encode(INTEGER, 0, "5--6", "020105");
        bench.none(INTEGER, "--5", 3);
    }

    private static void words() {
        Kit.sentence("WORD: a letter, then letters, digits and - as many as follow (no - at its end, nor two together: those end it before).");
        bench.der(ITEM, "a", "0a0100");
        bench.der(ITEM, "a-b", "0a0101");
        bench.der(ITEM, "a1", "0a0102");
        bench.der(ITEM, "a-1-b2", "0a0103");
        bench.der(ITEM, "aB", "0a0104");
        bench.none(ITEM, "a-", 1);
        bench.none(ITEM, "a-b-", 3);
        bench.none(ITEM, "a- b", 1);
        bench.encode(ITEM, 0, "a--b", "0a0100");
        bench.encode(ITEM, 0, "a--", "0a0100");
        bench.encode(ITEM, 0, "a---b--", "0a0100");
        bench.none(ITEM, "a1 -", 3);
        bench.none(ITEM, "a_b", 1);
        bench.none(ITEM, "-a", 1);
        bench.none(ITEM, "1a", 1);
        bench.none(ITEM, "ab", 0);
        bench.none(ITEM, "a-B", 0);
        for (char c : "@[`{/".toCharArray()) {
            bench.none(ITEM, "b" + c, 1);
        }
        bench.none(ITEM, "b:", 2);
        Bench.sound("Az ::= NULL Z09 ::= NULL A-z-0 ::= NULL");
        Bench.broken("A- ::= NULL", 1);
        Bench.broken("0A ::= NULL", 0);
        Kit.sentence("others that begin with a capital are TYPENAMES, the rest IDS.");
        Bench.broken("zA ::= NULL", 0);
        Bench.broken("A ::= SEQUENCE {B NULL}", 16);
        bench.none(ITEM, "A", 0);
    }

    private static void numbers() {
        Kit.sentence("NUMBER: digits, as many as follow, 0 or not beginning with 0, below 2^63 (others are no TOKEN).");
        bench.der(INTEGER, "0", "020100");
        bench.der(INTEGER, "10", "02010a");
        bench.der(INTEGER, "9223372036854775807", "02087fffffffffffffff");
        bench.der(INTEGER, "-9223372036854775807", "02088000000000000001");
        bench.none(INTEGER, "9223372036854775808", 0);
        bench.none(INTEGER, "-9223372036854775808", 1);
        bench.none(INTEGER, "9223372036854775810", 0);
        bench.none(INTEGER, "10000000000000000000", 0);
        bench.none(INTEGER, "18446744073709551615", 0);
        bench.none(INTEGER, "18446744073709551616", 0);
        bench.none(INTEGER, "18446744073709551621", 0);
        bench.none(INTEGER, "92233720368547758070", 0);
        bench.none(INTEGER, "00", 0);
        bench.none(INTEGER, "05", 0);
        bench.none(INTEGER, "-00", 1);
        bench.none(INTEGER, "000000000000000000000000000000", 0);
        bench.none(INTEGER, "0 5", 2);
        bench.none(INTEGER, "5x", 1);
        bench.none(INTEGER, "5 5", 2);
        Bench.sound("A ::= INTEGER (9223372036854775806..9223372036854775807) B ::= OCTET STRING (SIZE (9223372036854775807))");
        Bench.broken("A ::= INTEGER (0..9223372036854775808)", 18);
        Bench.broken("A ::= INTEGER (01)", 15);
        Bench.broken("A ::= [00] NULL", 7);
        Bench.broken("A ::= OCTET STRING (SIZE (9223372036854775808))", 26);
    }

    private static void strings() {
        Kit.sentence("STRING: \" and all up to a \" that is not followed by another one (\"\" stands for one), bytes 1 to 127 alone.");
        bench.der(UTF8, "\"\"", "0c00");
        bench.der(UTF8, "\"\"\"\"", "0c0122");
        bench.der(UTF8, "\"\"\"\"\"\"", "0c022222");
        bench.der(UTF8, "\"a\"\"b\"", "0c03612262");
        bench.der(UTF8, "\"--\"", "0c022d2d");
        bench.der(UTF8, "\" ' \n\"", "0c042027200a");
        bench.der(UTF8, "\"\u0001\u007f\"", "0c02017f");
        bench.none(UTF8, "\"", 0);
        bench.none(UTF8, "\"\"\"", 0);
        bench.none(UTF8, "\"a", 0);
        bench.none(UTF8, "\"a\"\"", 0);
        bench.none(UTF8, "\"a\"b\"", 3);
        bench.none(UTF8, "\"a\" \"b\"", 4);
        bench.none(UTF8, "\"\u0000\"", 0);
        bench.none(UTF8, " \"a\u0080\"", 1);
        bench.none(UTF8, "\"\u00ff\"", 0);
        bench.none(UTF8, "\"\u0000\" ;", 0);
        bench.none(UTF8, "\"\u0080\" ;", 0);
        bench.none(UTF8, "\"\u00ff\" ;", 0);
        Bench.broken("A ::= SEQUENCE {a UTF8String DEFAULT \"\u0000\"}", 37);
        Bench.broken("A ::= SEQUENCE {a UTF8String DEFAULT \"\u0080\"}", 37);
        Bench.sound("A ::= SEQUENCE {a UTF8String DEFAULT \"\u0001\u007f\"}");
    }

    private static void bitsAndHex() {
        Kit.sentence("BITS: ' with 0, 1 and blanks and 'B");
        bench.encode(BITS, 0, "''B", "030100");
        bench.encode(BITS, 0, "'10'B", "03020680");
        bench.encode(BITS, 0, "' 1\t0\n\r1 'B", "030205a0");
        bench.encode(BITS, 0, "'1--0--1'B", "030206c0");
        bench.encode(BITS, 0, "'1--0\n1'B", "030206c0");
        for (String wrong : new String[] {"'2'B", "'A'B", "'1'", "'1", "'1'b", "'1' B", "'1''B", "'-1'B", "'1--'B", "'/'B", "'"}) {
            bench.none(BITS, wrong, 0);
        }
        bench.none(BITS, "'1'B B", 5);
        Kit.sentence("HEX: ' with 0 .. 9, A .. F and blanks and 'H.");
        bench.encode(BYTES, 0, "''H", "0400");
        bench.encode(BYTES, 0, "'0189AF'H", "04030189af");
        bench.encode(BYTES, 0, "' 0 1\t8\n9\r'H", "04020189");
        bench.encode(BYTES, 0, "'10'H", "040110");
        for (String wrong : new String[] {"'G0'H", "'a0'H", "'@0'H", "':0'H", "'/0'H", "'0f'H", "'00'h", "'00'X", "'00'", "'00' H", "'00"}) {
            bench.none(BYTES, wrong, 0);
        }
    }

    private static void signs() {
        Kit.sentence("Signs: ::= .. ... { } ( ) [ ] , : - (the longest).");
        Bench.broken("A : := NULL", 2);
        Bench.broken("A :: = NULL", 2);
        Bench.broken("A :: NULL", 2);
        Bench.broken("A : = NULL", 2);
        Bench.broken("A :\n= NULL", 2);
        Bench.broken("A = NULL", 2);
        Bench.sound("A ::= INTEGER (1 .. 2 , ...)");
        Bench.broken("A ::= INTEGER (1.2)", 16);
        Bench.broken("A ::= INTEGER (1. .2)", 16);
        Bench.broken("A ::= INTEGER (1...2)", 16);
        Bench.broken("A ::= INTEGER (1....2)", 16);
        Bench.broken("A ::= INTEGER (1..2, .. .)", 21);
        Bench.broken("A ::= INTEGER (1..2, ....)", 24);
        Bench.broken("A ::= INTEGER (1..2, ..)", 21);
        bench.none(CHOSEN, "b::NULL", 2);
        bench.none(CHOSEN, "b::=NULL", 1);
        bench.none(NULL, "NULL.", 4);
        bench.none(NULL, "NULL..", 4);
        for (char c : "!#$%&*+/;<=>?@\\^_`|~".toCharArray()) {
            bench.none(NULL, "NULL " + c, 5);
            bench.none(NULL, c + " NULL", 0);
        }
        for (String sign : new String[] {"::=", "..", "...", "}", "(", ")", "[", "]", ",", ":"}) {
            bench.none(NULL, "NULL " + sign, 5);
            bench.none(NULL, sign + " NULL", 0);
        }
    }

    private static void keptWords() {
        Kit.sentence("A WORD of capitals in \"\" here, or BOOLEAN, TRUE, FALSE, NULL, MIN, MAX, UTF8String, PrintableString, IA5String, NumericString, VisibleString is KEPT");
        for (String word : KEPT) {
            Bench.read(word + " DEFINITIONS ::= BEGIN END", Bench.NONE + "@0");
            Bench.read(word + "x DEFINITIONS ::= BEGIN END", "0");
            Bench.read(word + "-x DEFINITIONS ::= BEGIN END", "0");
            Bench.read(word.substring(0, word.length() - 1) + "0 DEFINITIONS ::= BEGIN END", "0");
            String small = Character.toLowerCase(word.charAt(0)) + word.substring(1);
            Bench.sound("A ::= ENUMERATED {" + small + "}");
        }
        for (String word : new String[] {"UTF8STRING", "Utf8String", "Boolean", "CONTEXT", "REAL", "IA5", "M"}) {
            Bench.read(word + " DEFINITIONS ::= BEGIN " + word + " ::= NULL END", "1");
        }
    }

    /** Each TOKEN of a TEXT with all that a TEXT can have is needed where it stands. */
    private static void prefixesOfTexts() {
        Kit.sentence("SYNTAX is broken at the PLACE (from 0) of the first TOKEN with which it can't go on (its length at the end; a byte that begins no TOKEN).");
        String[] tokens = ("M DEFINITIONS AUTOMATIC TAGS ::= BEGIN A ::= [ APPLICATION 5 ] IMPLICIT SEQUENCE { a BOOLEAN , b NULL OPTIONAL , "
                + "c INTEGER ( MIN .. - 5 , ... ) DEFAULT - 7 , ... , d ENUMERATED { x , y ( - 3 ) , ... , z } } "
                + "B ::= CHOICE { a BIT STRING ( SIZE ( 1 .. MAX , ... ) ) , ... , b [ 1 ] EXPLICIT OCTET STRING } "
                + "C ::= SET SIZE ( 5 ) OF OBJECT IDENTIFIER D ::= SET { e UTF8String , f IA5String ( SIZE ( 2 ) ) , "
                + "g A DEFAULT { a TRUE , d x } , h B DEFAULT a : '1'B , i C DEFAULT { { 1 2 3 } , { 0 5 } } } END").split(" ");
        StringBuilder text = new StringBuilder();
        for (String token : tokens) {
            Bench.read(text.toString(), Bench.NONE + "@" + text.length());
            Bench.read(text + " ;", Bench.NONE + "@" + (text.length() + 1));
            Bench.read(text + " \u0000", Bench.NONE + "@" + (text.length() + 1));
            text.append(text.length() == 0 ? "" : " ").append(token);
        }
        Bench.read(text.toString(), Bench.UNSOUND);
        Bench.read(text + " END", Bench.NONE + "@" + (text.length() + 1));
        Bench.read(text + " ;", Bench.NONE + "@" + (text.length() + 1));
        Kit.sentence("TEXT: TYPENAME \"DEFINITIONS\" [(\"EXPLICIT\" | \"IMPLICIT\" | \"AUTOMATIC\") \"TAGS\"] ::= \"BEGIN\" {TYPENAME ::= TYPE} \"END\".");
        for (String mode : new String[] {"", "EXPLICIT TAGS ", "IMPLICIT TAGS ", "AUTOMATIC TAGS "}) {
            Bench.read("M DEFINITIONS " + mode + "::= BEGIN END", "0");
            Bench.read("M DEFINITIONS " + mode + "::= BEGIN A ::= NULL END", "1");
        }
        Bench.read("M DEFINITIONS TAGS ::= BEGIN END", Bench.NONE + "@14");
        Bench.read("M DEFINITIONS EXPLICIT ::= BEGIN END", Bench.NONE + "@23");
        Bench.read("M DEFINITIONS EXPLICIT IMPLICIT TAGS ::= BEGIN END", Bench.NONE + "@23");
        Bench.read("M DEFINITIONS UNIVERSAL TAGS ::= BEGIN END", Bench.NONE + "@14");
        Bench.broken("A ::= NULL,", 10);
        Bench.broken("A ::= NULL B", 13);
    }

    private static void ranges() {
        Kit.sentence("RANGE: ( (N | MIN) [.. (N | MAX)] [, ...] ) (... the sign; one N alone is from it to it; MIN alone is not).");
        for (String range : new String[] {"(5)", "(-5)", "(5, ...)", "(5..6)", "(-6..-5)", "(MIN..5)", "(MIN..MAX)", "(5..MAX)", "(MIN..MAX, ...)"}) {
            Bench.sound("A ::= INTEGER " + range);
        }
        Bench.broken("A ::= INTEGER (MIN)", 18);
        Bench.broken("A ::= INTEGER (MIN, ...)", 18);
        Bench.broken("A ::= INTEGER (MAX)", 15);
        Bench.broken("A ::= INTEGER (MAX..MAX)", 15);
        Bench.broken("A ::= INTEGER (5..MIN)", 18);
        Bench.broken("A ::= INTEGER (-MIN..5)", 16);
        Bench.broken("A ::= INTEGER (5..-MAX)", 19);
        Bench.broken("A ::= INTEGER (...)", 15);
        Bench.broken("A ::= INTEGER (5, 6)", 18);
        Bench.broken("A ::= INTEGER (5, ..., 6)", 21);
        Bench.broken("A ::= INTEGER (5) (6)", 18);
        Bench.broken("A ::= BOOLEAN (TRUE)", 14);
    }

    private static void sizes() {
        Kit.sentence("SIZED: ( SIZE ). SIZE: \"SIZE\" ( NUMBER [.. (NUMBER | MAX)] [, ...] ).");
        for (String base : new String[] {"BIT STRING ", "OCTET STRING ", "PrintableString ", "IA5String ", "NumericString ", "VisibleString "}) {
            for (String size : new String[] {"0", "5", "0..5", "5..MAX", "5, ...", "0..MAX, ..."}) {
                Bench.sound("A ::= " + base + "(SIZE (" + size + "))");
            }
            int n = 6 + base.length();
            Bench.broken("A ::= " + base + "SIZE (5)", n);
            Bench.broken("A ::= " + base + "(5)", n + 1);
            Bench.broken("A ::= " + base + "(SIZE (-5))", n + 7);
            Bench.broken("A ::= " + base + "(SIZE (MIN..5))", n + 7);
            Bench.broken("A ::= " + base + "(SIZE (5..-5))", n + 10);
            Bench.broken("A ::= " + base + "(SIZE (MAX))", n + 7);
            Bench.broken("A ::= " + base + "(SIZE (5), ...)", n + 9);
        }
        for (String base : new String[] {"BOOLEAN ", "NULL ", "OBJECT IDENTIFIER ", "UTF8String ", "ENUMERATED {a} ", "SEQUENCE {} ", "CHOICE {a NULL} ", "B "}) {
            Bench.broken("A ::= " + base + "(SIZE (5))", 6 + base.length());
        }
        Kit.sentence("(\"SEQUENCE\" | \"SET\") [SIZE] \"OF\" TYPE");
        for (String base : new String[] {"SEQUENCE ", "SET "}) {
            Bench.sound("A ::= " + base + "OF NULL B ::= " + base + "SIZE (5) OF NULL C ::= " + base + "SIZE (0..MAX, ...) OF NULL");
            Bench.broken("A ::= " + base + "(SIZE (5)) OF NULL", 6 + base.length());
            Bench.broken("A ::= " + base + "SIZE (5) NULL", 15 + base.length());
            Bench.broken("A ::= " + base + "SIZE (5) {}", 15 + base.length());
            Bench.broken("A ::= " + base + "NULL", 6 + base.length());
        }
    }

    private static void dotsOfParts() {
        Kit.sentence("PARTS: PART {, PART} with at most one ... in place of a PART (also alone)");
        for (String base : new String[] {"SEQUENCE ", "SET "}) {
            int n = 6 + base.length();
            Bench.sound("A ::= " + base + "{} B ::= " + base + "{...} C ::= " + base + "{..., a NULL} D ::= " + base + "{a NULL, ...} E ::= "
                    + base + "{a NULL, ..., b [1] NULL}");
            Bench.broken("A ::= " + base + "{..., ...}", n + 6);
            Bench.broken("A ::= " + base + "{a NULL, ..., ...}", n + 14);
            Bench.broken("A ::= " + base + "{..., a NULL, ...}", n + 14);
            Bench.broken("A ::= " + base + "{...,}", n + 5);
            Bench.broken("A ::= " + base + "{,...}", n + 1);
            Bench.broken("A ::= " + base + "{... a NULL}", n + 5);
            Bench.broken("A ::= " + base + "{.., a NULL}", n + 1);
        }
        Kit.sentence("PART: ID TYPE [\"OPTIONAL\" | \"DEFAULT\" VALUE].");
        Bench.broken("A ::= SEQUENCE {a NULL OPTIONAL OPTIONAL}", 32);
        Bench.broken("A ::= SEQUENCE {a NULL DEFAULT NULL OPTIONAL}", 36);
        Bench.broken("A ::= SEQUENCE {a NULL DEFAULT}", 30);
        Bench.broken("A ::= SEQUENCE {OPTIONAL}", 16);
    }

    private static void dotsOfAlternatives() {
        Kit.sentence("ALTERNATIVES: ID TYPE {, ID TYPE} with at most one ... behind the first of them, in place of one.");
        Bench.sound("A ::= CHOICE {a NULL} B ::= CHOICE {a NULL, ...} C ::= CHOICE {a NULL, ..., b BOOLEAN} "
                + "D ::= CHOICE {a NULL, b BOOLEAN, ..., c INTEGER, d [0] NULL}");
        Bench.broken("A ::= CHOICE {}", 14);
        Bench.broken("A ::= CHOICE {...}", 14);
        Bench.broken("A ::= CHOICE {..., a NULL}", 14);
        Bench.broken("A ::= CHOICE {a NULL, ..., ...}", 27);
        Bench.broken("A ::= CHOICE {a NULL, ..., b BOOLEAN, ...}", 38);
        Bench.broken("A ::= CHOICE {a NULL,}", 21);
        Bench.broken("A ::= CHOICE {a NULL, ...,}", 26);
        Bench.broken("A ::= CHOICE {a NULL OPTIONAL}", 21);
        Bench.broken("A ::= CHOICE {a NULL DEFAULT NULL}", 21);
    }

    private static void dotsOfItems() {
        Kit.sentence("\"ENUMERATED\" { ITEMS [, ... [, ITEMS]] } .. ITEMS: ID [( N )] {, ...}.");
        Bench.sound("A ::= ENUMERATED {a} B ::= ENUMERATED {a, ...} C ::= ENUMERATED {a, ..., b} D ::= ENUMERATED {a(-1), b(0), ..., c(7), d}");
        Bench.broken("A ::= ENUMERATED {}", 18);
        Bench.broken("A ::= ENUMERATED {...}", 18);
        Bench.broken("A ::= ENUMERATED {..., a}", 18);
        Bench.broken("A ::= ENUMERATED {a, ..., ...}", 26);
        Bench.broken("A ::= ENUMERATED {a, ..., b, ...}", 29);
        Bench.broken("A ::= ENUMERATED {a,}", 20);
        Bench.broken("A ::= ENUMERATED {a, ...,}", 25);
        Bench.broken("A ::= ENUMERATED {a()}", 20);
        Bench.broken("A ::= ENUMERATED {a(b)}", 20);
        Bench.broken("A ::= ENUMERATED {a(1..2)}", 21);
        Bench.broken("A ::= ENUMERATED {a(MIN)}", 20);
        Bench.broken("A ::= ENUMERATED {a 1}", 20);
    }

    private static void oneTagAtMost() {
        Kit.sentence("TYPE: [[ [\"UNIVERSAL\" | \"APPLICATION\" | \"PRIVATE\"] NUMBER ] [\"IMPLICIT\" | \"EXPLICIT\"]] BASE ([ ] as signs around the tag; one such tag at most).");
        for (String sort : new String[] {"", "UNIVERSAL ", "APPLICATION ", "PRIVATE "}) {
            for (String word : new String[] {"", "IMPLICIT ", "EXPLICIT "}) {
                Bench.sound("A ::= [" + sort + "0] " + word + "NULL");
            }
        }
        for (String word : KEPT) {
            if (!word.equals("UNIVERSAL") && !word.equals("APPLICATION") && !word.equals("PRIVATE")) {
                Bench.broken("A ::= [" + word + " 5] NULL", 7);
            }
        }
        Bench.broken("A ::= [1] [2] NULL", 10);
        Bench.broken("A ::= [1] IMPLICIT [2] NULL", 19);
        Bench.broken("A ::= [1] IMPLICIT IMPLICIT NULL", 19);
        Bench.broken("A ::= IMPLICIT NULL", 6);
        Bench.broken("A ::= [] NULL", 7);
        Bench.broken("A ::= [-1] NULL", 7);
        Bench.broken("A ::= [IMPLICIT 1] NULL", 7);
        Bench.broken("A ::= [UNIVERSAL APPLICATION 1] NULL", 17);
        Bench.broken("A ::= [1 2] NULL", 9);
        Bench.broken("A ::= [1] END", 10);
    }

    private static void whichBrace() {
        Kit.sentence("of { the two TOKENS behind it say which: ID and one that can begin a VALUE, NUMBER and NUMBER, or neither.");
        for (String begins : new String[] {"TRUE", "FALSE", "NULL", "5", "-5", "x", "'1'B", "'1'H", "\"1\"", "{}"}) {
            bench.none(NULL, "{a " + begins + "}", 0);
            bench.none(NULL, "{a " + begins + ", b NULL}", 0);
            bench.none(NULL, "{a " + begins + ", NULL}", 5 + begins.length());
            bench.none(NULL, "{" + begins + "}", 0);
            bench.none(NULL, "{" + begins + ", a NULL}", 5 + begins.length());
        }
        bench.none(NULL, "{a b}", 0);
        bench.none(NULL, "{a b, c}", 7);
        bench.none(NULL, "{a, b c}", 6);
        bench.none(NULL, "{a : b}", 0);
        bench.none(NULL, "{a : b, c d}", 10);
        bench.none(NULL, "{a b : c, d e}", 0);
        bench.none(NULL, "{a b : c, d}", 11);
        bench.none(NULL, "{5 6}", 0);
        bench.none(NULL, "{5 6 7}", 0);
        bench.none(NULL, "{5 6, 7}", 4);
        bench.none(NULL, "{5 6 -7}", 5);
        bench.none(NULL, "{5 6 a}", 5);
        bench.none(NULL, "{5, 6 7}", 6);
        bench.none(NULL, "{5 -6}", 3);
        bench.none(NULL, "{-5 6}", 4);
        bench.none(NULL, "{5 a}", 3);
        bench.none(NULL, "{a ;", 3);
        bench.none(NULL, "{a", 2);
        bench.none(NULL, "{a ,", 4);
        bench.none(NULL, "{a B}", 3);
        bench.none(NULL, "{{} {}}", 4);
        bench.none(NULL, "{5 ;", 3);
        Kit.sentence("VALUE: TRUE | FALSE | NULL | N | ID | BITS | HEX | STRING | ID : VALUE | { } | ..");
        for (String no : new String[] {"MIN", "MAX", "BOOLEAN", "A", "END", "(", "[", "}", ",", ":", "..", "...", "::="}) {
            bench.none(NULL, no, 0);
            bench.none(NULL, "a : " + no, 4);
            bench.none(NULL, "{" + no, no.equals("}") ? 0 : 1);
        }
        bench.none(NULL, "- ", 2);
        bench.none(NULL, "- - 5", 2);
        bench.none(NULL, "TRUE : NULL", 5);
        bench.none(NULL, "A : NULL", 0);
    }

    private static void prefixesOfValues() {
        Kit.sentence("SYNTAX is broken at the PLACE (from 0) of the first TOKEN with which it can't go on (its length at the end)");
        for (String whole : new String[] {"{ a { c b : NULL } , c a : l : { { } , { } } }", "{ TRUE , FALSE , NULL , - 5 , a , '1'B , '1'H , \"1\" , { 1 2 3 } }",
            "{ a - 5 , b { 1 2 } , c d , e { } }", "{ a : b : { c NULL } , 5 }"}) {
            StringBuilder text = new StringBuilder();
            for (String token : whole.split(" ")) {
                bench.none(SETS, text.toString(), text.length());
                bench.none(SETS, text + " ;", text.length() + 1);
                bench.none(SETS, text + " MAX", text.length() + 1);
                text.append(text.length() == 0 ? "" : " ").append(token);
            }
            bench.none(SETS, text + " }", text.length() + 1);
            bench.none(SETS, text + " , NULL", text.length() + 1);
        }
        bench.encode(SETS, 0, "{ a { c b : NULL } , c a : l : { { } , { } } }", "300e" + "30020500" + "a008a106" + "3004" + "3000".repeat(2));
    }

    private static String lists(int n) {
        return "{".repeat(n) + "}".repeat(n);
    }

    /** The DER of n lists within one another. */
    private static String derLists(int n) {
        String der = "3000";
        for (int i = 1; i < n; i++) {
            int length = der.length() / 2;
            der = (length < 128 ? "30" : "3081") + String.format("%02x", length) + der;
        }
        return der;
    }

    private static void sixtyBraces() {
        Kit.sentence("At most 60 { and : of VALUES are begun and not ended at a time .. the TOKEN with which one more would begin is one with which it can't go on.");
        bench.der(LIST, lists(60), derLists(60));
        bench.none(LIST, lists(61), 60);
        bench.none(LIST, "{".repeat(61), 60);
        bench.none(LIST, "{".repeat(60), 60);
        bench.none(LIST, "{".repeat(60) + ";", 60);
        bench.none(LIST, " { ".repeat(61), 181);
        bench.none(SETS, "{a ".repeat(59) + "{}" + "}".repeat(59) + " ;", 59 * 4 + 3);
        bench.encode(SETS, 0, "{a ".repeat(59) + "{}" + "}".repeat(59), derLists(60));
        bench.none(SETS, "{a ".repeat(60) + "{}" + "}".repeat(60), 180);
        bench.none(OBJECT, "{".repeat(59) + "{1 2}" + "}".repeat(59), 0);
        bench.none(OBJECT, "{".repeat(60) + "{1 2}" + "}".repeat(60), 60);
        bench.none(OBJECT, "{".repeat(60) + "1" + "}".repeat(60), 0);
        bench.none(OBJECT, "{".repeat(60) + "a" + "}".repeat(60), 0);
        Kit.sentence("At most 60 { .. begun and not ended at a time");
        bench.encode(LIST, 1, "{" + lists(59) + "," + lists(59) + "}", "02" + ("01".repeat(58) + "00").repeat(2));
        bench.none(LIST, "{" + lists(59) + "," + lists(60) + "}", 1 + 118 + 1 + 59);
    }

    private static void sixtyColons() {
        Kit.sentence("At most 60 { and : of VALUES are begun and not ended at a time");
        bench.encode(CHOSEN, 1, "a:".repeat(59) + "b:NULL", perChoices(59));
        bench.none(CHOSEN, "a:".repeat(60) + "b:NULL", 121);
        bench.none(CHOSEN, "a :".repeat(60) + "b : NULL", 182);
        bench.none(CHOSEN, "a:".repeat(60) + "b", 120);
        bench.none(CHOSEN, "a:".repeat(60) + "{}", 120);
        bench.none(CHOSEN, "a:".repeat(60), 120);
        bench.none(CHOSEN, "a:".repeat(60) + ";", 120);
        bench.encode(CHOSEN, 1, "a:".repeat(29) + "l:" + lists(30), perListed());
        bench.none(CHOSEN, "a:".repeat(29) + "l:" + lists(31), 29 * 2 + 2 + 30);
        bench.none(SETS, "{a ".repeat(58) + "{c b:NULL}" + "}".repeat(58) + ",", 58 * 3 + 10 + 58);
        bench.none(SETS, "{a ".repeat(59) + "{c b:NULL}" + "}".repeat(59), 59 * 3 + 4);
        bench.none(SETS, "{a ".repeat(58) + "{c a:b:NULL}" + "}".repeat(58), 58 * 3 + 6);
        Kit.sentence("a : is ended where its VALUE is");
        bench.none(SETS, "{" + "c:".repeat(59) + "d," + "c:".repeat(59) + "d}", 0);
        bench.none(SETS, "{" + "c:".repeat(59) + "d," + "c:".repeat(60) + "d}", 1 + 59 * 2 + 2 + 59 * 2 + 1);
    }

    /** CHOICE C of three: a [0] is the second of them by its TAG, behind b NULL. */
    private static String perChoices(int n) {
        return bitsToHex("01".repeat(n) + "00");
    }

    private static String perListed() {
        return bitsToHex("01".repeat(29) + "10" + "00000001".repeat(29) + "00000000");
    }

    private static String bitsToHex(String bits) {
        StringBuilder hex = new StringBuilder();
        String filled = bits + "0".repeat((8 - bits.length() % 8) % 8);
        for (int i = 0; i < filled.length(); i += 8) {
            hex.append(String.format("%02x", Integer.parseInt(filled.substring(i, i + 8), 2)));
        }
        return hex.toString();
    }

    private static void sixtyTypes() {
        Kit.sentence("At most 60 .. and 60 TYPES; the TOKEN with which one more would begin is one with which it can't go on.");
        for (String opens : new String[] {"SEQUENCE OF ", "SET OF ", "SEQUENCE SIZE (1) OF ", "[1] SET OF "}) {
            Bench.sound("A ::= " + opens.repeat(59) + "NULL");
            Bench.sound("A ::= " + opens.repeat(59) + "[1] NULL");
            Bench.sound("A ::= " + opens.repeat(59) + "SEQUENCE {}");
            Bench.broken("A ::= " + opens.repeat(60) + "NULL", 6 + 60 * opens.length());
            Bench.broken("A ::= " + opens.repeat(60) + "[1] NULL", 6 + 60 * opens.length());
            Bench.broken("A ::= " + opens.repeat(60) + "A", 6 + 60 * opens.length());
            Bench.broken("A ::= " + opens.repeat(60) + ";", 6 + 60 * opens.length());
        }
        for (String opens : new String[] {"SEQUENCE {a ", "SET {a ", "CHOICE {a ", "[1] SEQUENCE {..., a "}) {
            Bench.sound("A ::= " + opens.repeat(59) + "NULL" + "}".repeat(59));
            Bench.broken("A ::= " + opens.repeat(60) + "NULL" + "}".repeat(60), 6 + 60 * opens.length());
            Bench.broken("A ::= " + opens.repeat(59) + "SEQUENCE {a NULL}" + "}".repeat(59), 6 + 59 * opens.length() + 12);
            Bench.sound("A ::= " + opens.repeat(59) + "ENUMERATED {a}" + "}".repeat(59));
        }
        Kit.sentence("60 TYPES .. begun and not ended at a time");
        Bench.sound("A ::= SEQUENCE {a " + "SET OF ".repeat(58) + "NULL, b " + "SET OF ".repeat(58) + "NULL}");
        Bench.broken("A ::= SEQUENCE {a " + "SET OF ".repeat(58) + "NULL, b " + "SET OF ".repeat(59) + "NULL}",
                18 + 7 * 58 + 8 + 7 * 59);
        Bench.sound("A ::= " + "SET OF ".repeat(59) + "B B ::= " + "SET OF ".repeat(59) + "A");
    }

    private static void sixtyOfEach() {
        Kit.sentence("At most 60 { and : of VALUES .. and 60 TYPES");
        String open = "A ::= " + "SEQUENCE {a ".repeat(59) + "T DEFAULT ";
        Bench.sound(open + lists(60) + "}".repeat(59) + " T ::= SEQUENCE OF T");
        Bench.broken(open + lists(61) + "}".repeat(59) + " T ::= SEQUENCE OF T", open.length() + 60);
        Bench.sound("T ::= SEQUENCE OF T A ::= SEQUENCE {a T DEFAULT " + lists(60) + ", b [1] T DEFAULT " + lists(60) + "}");
    }

    private static void placeAtTheEnd() {
        Kit.sentence("(its length at the end; a byte that begins no TOKEN)");
        bench.none(NULL, "", 0);
        bench.none(NULL, "   ", 3);
        bench.none(NULL, "--", 2);
        bench.none(NULL, "a :   ", 6);
        bench.none(NULL, "a : -- x", 8);
        bench.none(NULL, "{5,\n\n", 5);
        Bench.read("", Bench.NONE + "@0");
        Bench.read(" \n", Bench.NONE + "@2");
        Bench.read("M --", Bench.NONE + "@4");
        Bench.read("M DEFINITIONS ::= BEGIN END \u0080", Bench.NONE + "@28");
        Bench.read("M DEFINITIONS ::= BEGIN END \"x", Bench.NONE + "@28");
        Bench.read("M DEFINITIONS ::= BEGIN END 00", Bench.NONE + "@28");
        Kit.sentence("the first TOKEN with which it can't go on: what stands behind it is not looked at");
        Bench.read("M M \u0080", Bench.NONE + "@2");
        bench.none(NULL, "NULL NULL \u0080", 5);
        bench.none(NULL, "{a NULL NULL \"", 8);
    }
}
