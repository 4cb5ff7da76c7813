/** The edges of VALUES of a TYPE, of PRINTED and of what is too long (promises 5 and 6), sentence by sentence. */
final class ValueEdgeTest {
    private ValueEdgeTest() {
    }

    public static void main(String[] args) {
        integers();
        items();
        bitStrings();
        octetStrings();
        objects();
        alphabets();
        sizesOfStrings();
        sizesOfLists();
        parts();
        alternatives();
        otherForms();
        leftToRight();
        rowsOfStrings();
        printedComposed();
        printedStrings();
        printedNumbers();
        derTooLong();
        perTooLong();
        printedTooLong();
        Kit.finish();
    }

    private static void integers() {
        Kit.sentence("N for INTEGER (within RANGE, if it has no ...)");
        Bench bench = new Bench("A ::= INTEGER (-5..5) B ::= INTEGER (-5..5, ...) C ::= INTEGER (5..MAX) D ::= INTEGER (MIN..5) E ::= INTEGER (5) "
                + "F ::= INTEGER (MIN..MAX) G ::= INTEGER (5, ...)");
        bench.der(0, "-5", "0201fb");
        bench.der(0, "5", "020105");
        bench.none(0, "-6", 0);
        bench.none(0, "6", 0);
        bench.noBer(0, "0201fa");
        bench.noBer(0, "020106");
        bench.der(1, "-6", "0201fa");
        bench.der(1, "6", "020106");
        bench.der(2, "5", "020105");
        bench.none(2, "4", 0);
        bench.noBer(2, "020104");
        bench.der(2, "9223372036854775807", "02087fffffffffffffff");
        bench.der(3, "5", "020105");
        bench.none(3, "6", 0);
        bench.noBer(3, "020106");
        bench.der(3, "-9223372036854775807", "02088000000000000001");
        bench.der(4, "5", "020105");
        bench.none(4, "4", 0);
        bench.none(4, "6", 0);
        bench.noBer(4, "020104");
        bench.noBer(4, "020106");
        bench.der(5, "-9223372036854775807", "02088000000000000001");
        bench.der(6, "6", "020106");
    }

    private static void items() {
        Kit.sentence("an ID of ITEMS");
        Bench bench = new Bench("A ::= ENUMERATED {a, b(5), ..., c(7)}");
        bench.der(0, "a", "0a0100");
        bench.der(0, "b", "0a0105");
        bench.der(0, "c", "0a0107");
        for (String wrong : new String[] {"d", "aa", "5", "TRUE", "\"a\"", "a : NULL", "{a}"}) {
            bench.none(0, wrong, 0);
        }
        for (String wrong : new String[] {"01", "04", "06", "08", "ff"}) {
            bench.noBer(0, "0a01" + wrong);
        }
    }

    private static void bitStrings() {
        Kit.sentence("BITS or HEX for BIT STRING .. within SIZE, if it has no ...");
        Bench bench = new Bench("A ::= BIT STRING (SIZE (3..8)) B ::= BIT STRING (SIZE (3..8, ...)) C ::= BIT STRING (SIZE (0)) D ::= BIT STRING (SIZE (9..MAX))");
        bench.der(0, "'101'B", "030205a0");
        bench.encode(0, 0, "'10100101'B", "030200a5");
        bench.encode(0, 0, "'A'H", "030204a0");
        bench.none(0, "'10'B", 0);
        bench.none(0, "'101001011'B", 0);
        bench.none(0, "'A5C'H", 0);
        bench.none(0, "\"101\"", 0);
        bench.noBer(0, "03020680");
        bench.noBer(0, "030307a580");
        bench.der(1, "'10'B", "03020680");
        bench.der(1, "'101001011'B", "030307a580");
        bench.der(2, "''H", "030100");
        bench.none(2, "'0'B", 0);
        bench.noBer(2, "03020700");
        bench.none(3, "'FF'H", 0);
        bench.der(3, "'111111111'B", "030307ff80");
        bench.noBer(3, "030200ff");
    }

    private static void octetStrings() {
        Kit.sentence("HEX or BITS, whole bytes, for OCTET STRING, within SIZE, if it has no ...");
        Bench bench = new Bench("A ::= OCTET STRING B ::= OCTET STRING (SIZE (1..2)) C ::= OCTET STRING (SIZE (1..2, ...)) D ::= OCTET STRING (SIZE (2..MAX))");
        bench.der(0, "''H", "0400");
        bench.encode(0, 0, "''B", "0400");
        bench.encode(0, 0, "'10100101'B", "0401a5");
        bench.none(0, "'1010010'B", 0);
        bench.none(0, "'101001011'B", 0);
        bench.none(0, "'A'H", 0);
        bench.none(0, "'A5C'H", 0);
        bench.none(0, "\"\"", 0);
        bench.der(1, "'A5'H", "0401a5");
        bench.der(1, "'A5A6'H", "0402a5a6");
        bench.none(1, "''H", 0);
        bench.none(1, "'A5A6A7'H", 0);
        bench.noBer(1, "0400");
        bench.noBer(1, "0403a5a6a7");
        bench.der(2, "''H", "0400");
        bench.der(2, "'A5A6A7'H", "0403a5a6a7");
        bench.none(3, "'A5'H", 0);
        bench.noBer(3, "0401a5");
    }

    private static void objects() {
        Kit.sentence("{ N N .. }: 0 .. 2, then 0 .. 39 (any behind 2, below 2^63 - 80)");
        Bench bench = new Bench("A ::= OBJECT IDENTIFIER");
        bench.der(0, "{0 0}", "060100");
        bench.der(0, "{0 39}", "060127");
        bench.none(0, "{0 40}", 0);
        bench.der(0, "{1 0}", "060128");
        bench.der(0, "{1 39}", "06014f");
        bench.none(0, "{1 40}", 0);
        bench.der(0, "{2 0}", "060150");
        bench.der(0, "{2 40}", "060178");
        bench.der(0, "{2 47}", "06017f");
        bench.der(0, "{2 48}", "06028100");
        bench.none(0, "{3 0}", 0);
        bench.none(0, "{9223372036854775807 0}", 0);
        bench.der(0, "{2 9223372036854775727}", "0609ffffffffffffffff7f");
        bench.none(0, "{2 9223372036854775728}", 0);
        bench.none(0, "{2 9223372036854775807}", 0);
        bench.none(0, "{1 9223372036854775807}", 0);
        bench.der(0, "{1 2 0 127 128 9223372036854775807}", "060e2a007f8100ffffffffffffffff7f");
        bench.none(0, "{1 2 9223372036854775808}", 5);
        bench.none(0, "{}", 0);
        bench.none(0, "{1}", 0);
        bench.none(0, "{1, 2}", 0);
        Bench others = new Bench("A ::= SEQUENCE OF INTEGER B ::= SEQUENCE {a INTEGER}");
        others.none(0, "{1 2}", 0);
        others.none(1, "{1 2}", 0);
    }

    private static void alphabet(String base, int first, String allowed) {
        Bench bench = new Bench("A ::= [0] IMPLICIT " + base);
        for (int c = 0; c < 256; c++) {
            boolean in = allowed.indexOf(c) >= 0;
            String written = c == '"' ? "\"\"\"\"" : "\"" + (char) c + "\"";
            String der = String.format("8001%02x", c);
            if (in) {
                bench.der(0, written, der);
            } else {
                bench.none(0, written, 0);
                bench.noBer(0, der);
                String seven = String.format("%02x", c << 1 & 255);
                if (c < 128 && !base.equals("NumericString")) {
                    bench.noPer(0, base.equals("UTF8String") ? String.format("01%02x", c) : "01" + seven);
                }
            }
        }
        bench.none(0, "\"" + (char) first + "\u0080\"", 0);
    }

    private static String span(int from, int to) {
        StringBuilder text = new StringBuilder();
        for (int c = from; c <= to; c++) {
            text.append((char) c);
        }
        return text.toString();
    }

    private static void alphabets() {
        Kit.sentence("STRING: PrintableString letters, digits, blank and ' ( ) + , - . / : = ?");
        alphabet("PrintableString", 'a', span('a', 'z') + span('A', 'Z') + span('0', '9') + " '()+,-./:=?");
        Kit.sentence("NumericString digits and blank");
        alphabet("NumericString", '0', span('0', '9') + " ");
        Kit.sentence("VisibleString 32 .. 126");
        alphabet("VisibleString", ' ', span(32, 126));
        Kit.sentence("the others 1 .. 127 (so what is decoded, too)");
        alphabet("IA5String", 1, span(1, 127));
        alphabet("UTF8String", 1, span(1, 127));
        Bench bench = new Bench("A ::= NumericString B ::= UTF8String C ::= IA5String");
        for (int nibble = 11; nibble < 16; nibble++) {
            bench.noPer(0, String.format("01%x0", nibble));
        }
        bench.decode(0, Bench.PER, "01a0", "\"9\"");
        bench.decode(0, Bench.PER, "0100", "\" \"");
        bench.decode(0, Bench.PER, "0110", "\"0\"");
        bench.noPer(1, "0100");
        bench.noPer(1, "0180");
        bench.noPer(1, "01ff");
        bench.noPer(2, "0100");
        Kit.sentence("a STRING for strings alone");
        bench.none(0, "5", 0);
        bench.none(1, "'00'H", 0);
        bench.none(2, "a", 0);
    }

    private static void sizesOfStrings() {
        Kit.sentence("within SIZE (characters; of UTF8String none can be told)");
        String[] bases = {"PrintableString", "IA5String", "NumericString", "VisibleString"};
        for (String base : bases) {
            Bench bench = new Bench("A ::= [0] IMPLICIT " + base + " (SIZE (2..3)) B ::= [0] IMPLICIT " + base + " (SIZE (2..3, ...)) C ::= [0] IMPLICIT "
                    + base + " (SIZE (2..MAX)) D ::= [0] IMPLICIT " + base + " (SIZE (0))");
            bench.none(0, "\"1\"", 0);
            bench.noBer(0, "800131");
            bench.der(0, "\"11\"", "80023131");
            bench.der(0, "\"111\"", "8003313131");
            bench.none(0, "\"1111\"", 0);
            bench.noBer(0, "800431313131");
            bench.der(1, "\"1\"", "800131");
            bench.der(1, "\"1111\"", "800431313131");
            bench.none(2, "\"1\"", 0);
            bench.noBer(2, "800131");
            bench.der(2, "\"11\"", "80023131");
            bench.der(3, "\"\"", "8000");
            bench.none(3, "\"1\"", 0);
            bench.noBer(3, "800131");
        }
        Bench quotes = new Bench("A ::= IA5String (SIZE (2))");
        quotes.der(0, "\"\"\"\"\"\"", "16022222");
        quotes.none(0, "\"\"\"\"", 0);
    }

    private static void sizesOfLists() {
        Kit.sentence("{ VALUE, .. } for OF, as many as SIZE says, if it has no ...");
        for (String base : new String[] {"SEQUENCE", "SET"}) {
            String id = base.equals("SET") ? "31" : "30";
            Bench bench = new Bench("A ::= " + base + " OF NULL B ::= " + base + " SIZE (1..2) OF NULL C ::= " + base + " SIZE (1..2, ...) OF NULL D ::= "
                    + base + " SIZE (2..MAX) OF NULL E ::= " + base + " SIZE (0) OF NULL");
            bench.der(0, "{}", id + "00");
            bench.none(1, "{}", 0);
            bench.noBer(1, id + "00");
            bench.der(1, "{NULL}", id + "020500");
            bench.der(1, "{NULL, NULL}", id + "0405000500");
            bench.none(1, "{NULL, NULL, NULL}", 0);
            bench.noBer(1, id + "06050005000500");
            bench.der(2, "{}", id + "00");
            bench.der(2, "{NULL, NULL, NULL}", id + "06050005000500");
            bench.none(3, "{NULL}", 0);
            bench.noBer(3, id + "020500");
            bench.der(3, "{NULL, NULL}", id + "0405000500");
            bench.der(4, "{}", id + "00");
            bench.none(4, "{NULL}", 0);
            bench.noBer(4, id + "020500");
        }
    }

    private static void parts() {
        Kit.sentence("{ ID VALUE, .. } for SEQUENCE, SET: PARTS in their order, those neither OPTIONAL nor DEFAULT nor EXTENSIONS there");
        for (String base : new String[] {"SEQUENCE", "SET"}) {
            Bench bench = new Bench("AUTOMATIC TAGS ", "A ::= " + base + " {a NULL, b NULL OPTIONAL, c NULL DEFAULT NULL, d NULL, ..., e NULL, f NULL OPTIONAL} B ::= "
                    + base + " {} C ::= " + base + " {a NULL OPTIONAL} D ::= " + base + " {..., a NULL}");
            String id = base.equals("SET") ? "31" : "30";
            bench.der(0, "{a NULL, d NULL}", id + "0480008300");
            bench.der(0, "{a NULL, b NULL, d NULL, e NULL, f NULL}", id + "0a80008100830084008500");
            bench.der(0, "{a NULL, d NULL, f NULL}", id + "06800083008500");
            bench.none(0, "{}", 0);
            bench.none(0, "{a NULL}", 0);
            bench.none(0, "{d NULL}", 0);
            bench.none(0, "{a NULL, b NULL, c NULL, e NULL}", 0);
            bench.none(0, "{d NULL, a NULL}", 0);
            bench.none(0, "{a NULL, a NULL, d NULL}", 0);
            bench.none(0, "{a NULL, d NULL, d NULL}", 0);
            bench.none(0, "{a NULL, d NULL, b NULL}", 0);
            bench.none(0, "{a NULL, c NULL, b NULL, d NULL}", 0);
            bench.none(0, "{a NULL, d NULL, f NULL, e NULL}", 0);
            bench.none(0, "{a NULL, d NULL, g NULL}", 0);
            bench.der(1, "{}", id + "00");
            bench.none(1, "{a NULL}", 0);
            bench.der(2, "{}", id + "00");
            bench.der(2, "{a NULL}", id + "028000");
            bench.der(3, "{}", id + "00");
            bench.der(3, "{a NULL}", id + "028000");
        }
    }

    private static void alternatives() {
        Kit.sentence("ID : VALUE for CHOICE.");
        Bench bench = new Bench("A ::= CHOICE {a NULL, b B, ..., c INTEGER} B ::= CHOICE {d BOOLEAN, e [0] A}");
        bench.der(0, "a:NULL", "0500");
        bench.der(0, "b:d:TRUE", "0101ff");
        bench.der(0, "b:e:c:5", "a003020105");
        bench.none(0, "d : TRUE", 0);
        bench.none(0, "b : a : NULL", 4);
        bench.none(0, "a", 0);
        bench.none(0, "{a NULL}", 0);
        bench.none(0, "NULL", 0);
        bench.none(0, "b : d", 4);
    }

    private static void otherForms() {
        Kit.sentence("VALUES of a TYPE: each TYPE has its own form");
        String[] bases = {"BOOLEAN", "NULL", "INTEGER", "ENUMERATED {x}", "BIT STRING", "OCTET STRING", "OBJECT IDENTIFIER", "UTF8String", "PrintableString",
            "IA5String", "NumericString", "VisibleString", "SEQUENCE {x NULL}", "SET {x NULL}", "SEQUENCE OF NULL", "SET OF NULL", "CHOICE {x NULL}"};
        String[] forms = {"TRUE", "NULL", "5", "x", "'00'H", "'00000000'B", "{1 2}", "\"5\"", "{x NULL}", "{NULL}", "x : NULL", "{}"};
        String[] fit = {"TRUE", "NULL", "5", "x", "'00'H '00000000'B", "'00'H '00000000'B", "{1 2}", "\"5\"", "\"5\"", "\"5\"", "\"5\"", "\"5\"", "{x NULL}", "{x NULL}",
            "{NULL} {}", "{NULL} {}", "x : NULL"};
        for (int i = 0; i < bases.length; i++) {
            Bench bench = new Bench("A ::= " + bases[i]);
            for (String form : forms) {
                boolean fits = fit[i].equals(form) || fit[i].startsWith(form + " ") && !form.equals("x") || fit[i].endsWith(" " + form) && fit[i].contains("H '")
                        || fit[i].equals("{NULL} {}") && form.equals("{}");
                if (fits) {
                    SyntaxForge forge = bench.ready();
                    Kit.due(bases[i] + " takes " + form, Kit.encode(forge, 0, 0, form).contains("@"), false);
                } else {
                    bench.none(0, form, 0);
                }
            }
        }
    }

    private static void leftToRight() {
        Kit.sentence("VALUES are looked at from left to right, what is in one before its end: the first that is found to be none is told by its first TOKEN");
        Bench bench = new Bench("A ::= SEQUENCE {a BOOLEAN, b SEQUENCE SIZE (1..2) OF BOOLEAN, c C OPTIONAL, d NULL} C ::= CHOICE {x [0] BOOLEAN, y [1] A} "
                + "L ::= SEQUENCE SIZE (2) OF A S ::= SEQUENCE {a BOOLEAN OPTIONAL, b INTEGER}");
        bench.none(0, "{a 5, b 6, d 7}", 3);
        bench.none(0, "{a TRUE, b 6, d 7}", 11);
        bench.none(0, "{a TRUE, b {5}, d 7}", 12);
        bench.none(0, "{a TRUE, b {TRUE}, d 7}", 21);
        bench.none(0, "{a TRUE, b {TRUE, 5, 6}, d 7}", 18);
        bench.none(0, "{a TRUE, b {TRUE, TRUE, 6}, d 7}", 24);
        Kit.sentence("one with { by that {, as soon as an ID comes that can not stand in it, or at its end");
        bench.none(0, "{a TRUE, b {TRUE, TRUE, TRUE}, d 7}", 11);
        bench.none(0, "{a TRUE, b {}, d 7}", 11);
        bench.none(0, "{a TRUE, z 5, d 7}", 0);
        bench.none(0, "{a 5, z 5, d 7}", 3);
        bench.none(0, "{a TRUE, b {TRUE}}", 0);
        bench.none(0, "{a TRUE, b {5}}", 12);
        bench.none(0, "{a TRUE, b {TRUE}, d NULL, e 5}", 0);
        bench.none(0, "{a TRUE, b {TRUE}, d 5, e 5}", 21);
        bench.none(0, "{a TRUE, b {TRUE}, a 5}", 0);
        bench.none(2, "{ {a 5}}", 5);
        bench.none(2, "{ {a TRUE}}", 2);
        bench.none(2, "{ {a TRUE, b {TRUE}, d NULL}}", 0);
        bench.none(2, "{ {a TRUE, b {TRUE}, d NULL}, 5}", 30);
        Kit.sentence("one with : by its ID, if that is none.");
        bench.none(1, " z : 5", 1);
        bench.none(1, " x : 5", 5);
        bench.none(1, " y : {a 5}", 8);
        bench.none(1, " y : {a TRUE}", 5);
        bench.none(0, "{a TRUE, b {TRUE}, c z : {a 5}, d 7}", 21);
        bench.none(0, "{a TRUE, b {TRUE}, c x : {a 5}, d 7}", 25);
        bench.none(3, "{a TRUE}", 0);
    }

    private static void rowsOfStrings() {
        Kit.sentence("VALUES of a TYPE, one behind another");
        Bench bench = new Bench("A ::= SEQUENCE OF OBJECT IDENTIFIER B ::= SEQUENCE OF OCTET STRING C ::= SEQUENCE OF BIT STRING D ::= SEQUENCE OF IA5String "
                + "E ::= SEQUENCE OF NumericString F ::= SEQUENCE OF UTF8String");
        bench.der(0, "{{1 2 3}, {2 5}, {0 1 16384}}", "300d" + "06022a03" + "060155" + "060401818000");
        bench.per(0, "{{1 2 3}, {2 5}, {0 1 16384}}", "03" + "022a03" + "0155" + "0401818000");
        bench.der(1, "{'01'H, ''H, '0203'H}", "3009" + "040101" + "0400" + "04020203");
        bench.per(1, "{'01'H, ''H, '0203'H}", "03" + "0101" + "00" + "020203");
        bench.der(2, "{'101'B, ''H, 'FF'H}", "300b" + "030205a0" + "030100" + "030200ff");
        bench.per(2, "{'101'B, ''H, 'FF'H}", "0303a0011fe0");
        bench.der(3, "{\"a\", \"\", \"bc\"}", "3009" + "160161" + "1600" + "16026263");
        bench.der(4, "{\"1\", \"\", \"23\"}", "3009" + "120131" + "1200" + "12023233");
        bench.per(4, "{\"1\", \"\", \"23\"}", "03" + "012" + "00" + "02" + "34" + "0");
        bench.der(5, "{\"a\", \"\", \"bc\"}", "3009" + "0c0161" + "0c00" + "0c026263");
        bench.per(5, "{\"a\", \"\", \"bc\"}", "03" + "0161" + "00" + "026263");
    }

    private static void printedComposed() {
        Kit.sentence("PRINTED: no blanks but one behind , behind an ID of a PART, and between numbers; : without; { } without any within");
        Bench bench = new Bench("A ::= SEQUENCE {a SEQUENCE {}, b SEQUENCE OF INTEGER, c C, d OBJECT IDENTIFIER, e SET OF C} C ::= CHOICE {x NULL, y SET {z BOOLEAN}}");
        bench.der(0, "{a {}, b {1, -2, 3}, c x:NULL, d {1 2 3}, e {}}",
                "3015" + "3000" + "3009" + "0201010201fe020103" + "0500" + "06022a03" + "3100");
        bench.der(0, "{a {}, b {}, c y:{z TRUE}, d {0 0}, e {x:NULL, y:{z FALSE}}}",
                "3015" + "3000" + "3000" + "31030101ff" + "060100" + "31070500" + "3103010100");
        Kit.sentence("PRINTED: a PART that is its DEFAULT is not there");
        Bench defaults = new Bench("A ::= SEQUENCE {a INTEGER DEFAULT 1, b NULL OPTIONAL} B ::= SEQUENCE {a A DEFAULT {a 1}, b BOOLEAN OPTIONAL}");
        defaults.decode(0, Bench.BER, "3003020101", "{}");
        defaults.decode(0, Bench.BER, "3003020102", "{a 2}");
        defaults.decode(1, Bench.BER, "30053003020101", "{}");
        defaults.decode(1, Bench.BER, "30083003020101010100", "{b FALSE}");
        defaults.decode(1, Bench.BER, "30053003020102", "{a {a 2}}");
    }

    private static void printedStrings() {
        Kit.sentence("PRINTED: BIT STRING as BITS if its length is no multiple of 8, else HEX, OCTET STRING as HEX");
        Bench bench = new Bench("A ::= BIT STRING B ::= OCTET STRING C ::= UTF8String");
        bench.der(0, "''H", "030100");
        bench.der(0, "'0'B", "03020700");
        bench.der(0, "'1010101'B", "030201aa");
        bench.der(0, "'AA'H", "030200aa");
        bench.der(0, "'101010101'B", "030307aa80");
        bench.der(0, "'101010100000'B", "030304aa00");
        bench.der(0, "'0123456789ABCDEF'H", "0309000123456789abcdef");
        bench.der(1, "''H", "0400");
        bench.der(1, "'00FF'H", "040200ff");
        bench.der(2, "\"\"\"x\"\"\"", "0c03227822");
    }

    private static void printedNumbers() {
        Kit.sentence("PRINTED: numbers as short as can be.");
        Bench bench = new Bench("A ::= INTEGER B ::= OBJECT IDENTIFIER");
        bench.der(0, "0", "020100");
        bench.der(0, "-1", "0201ff");
        bench.der(0, "9", "020109");
        bench.der(0, "10", "02010a");
        bench.der(0, "99", "020163");
        bench.der(0, "100", "020164");
        bench.der(0, "-100", "02019c");
        bench.der(0, "1000000000000000000", "02080de0b6b3a7640000");
        bench.der(0, "999999999999999999", "02080de0b6b3a763ffff");
        bench.der(0, "9223372036854775807", "02087fffffffffffffff");
        bench.decode(0, Bench.DER, "02088000000000000000", "-9223372036854775808");
        bench.decode(0, Bench.PER, "088000000000000000", "-9223372036854775808");
        bench.der(1, "{2 100 0 1000}", "060581340087" + "68");
    }

    /** Each NULL stands under 99 EXPLICIT tags; the OCTET STRING makes up what is left. */
    private static void derTooLong() {
        Kit.sentence("Promise 5: THE RESULT is its bytes; more than 65536: IndexOutOfBoundsException (THE RESULT stays whenever this throws). Answers how many.");
        StringBuilder chain = new StringBuilder("A::=SEQUENCE{a SEQUENCE OF T0,b OCTET STRING} ");
        for (int i = 0; i < 99; i++) {
            chain.append("T").append(i).append("::=[1]T").append(i + 1).append(' ');
        }
        Bench bench = new Bench(chain + "T99::=NULL");
        int each = 2;
        for (int i = 0; i < 99; i++) {
            each += each < 128 ? 2 : 3;
        }
        int count = (65536 - 400) / each;
        int lists = 4 + count * each;
        int left = 65536 - 4 - lists - 4;
        String nulls = "{a {" + "NULL,".repeat(count - 1) + "NULL},b '";
        for (int more = -1; more <= 1; more++) {
            SyntaxForge forge = bench.ready();
            Kit.lay(forge, Kit.ascii(nulls + "00".repeat(left + more) + "'H}"));
            Kit.due(65536 + more + " bytes", Kit.ask(() -> forge.encode(0, 0)), more > 0 ? Bench.LONG : Integer.toString(65536 + more));
            Kit.due("THE TAPE", forge.count(0), 0);
            Kit.due("PLACE", forge.count(3), -1);
            Kit.due("THE RESULT", forge.count(1), more > 0 ? 5 : 65536 + more);
            Kit.due("its first bytes", forge.word(0) >>> 32, more > 0 ? 0x4703C0FFL : 0x3082FFFCL + more);
            int last = 65535 + Math.min(more, 0);
            Kit.due("its last byte", Kit.ask(() -> forge.word(last)), more > 0 ? Bench.LONG : "0");
            Kit.due("none behind it", Kit.ask(() -> forge.word(last + 1)), Bench.LONG);
        }
        Kit.sentence("Promise 5: SYNTAX is broken, or it is none of the TYPE .. before more than 65536");
        String tooMany = nulls.replace("NULL},b", "NULL,NULL,NULL,NULL,NULL},b") + "00".repeat(left + 1);
        bench.none(0, tooMany, tooMany.length() - 2 * left - 3);
        bench.none(0, tooMany + "'H", tooMany.length() + 2);
        bench.none(0, tooMany + "0'B}", tooMany.indexOf('\''));
        bench.encode(0, 0, tooMany + "'H}", Bench.LONG);
    }

    /** Each {a 0} takes two bits, LENGTH and bits of all EXTENSIONS, and a whole one of a byte with its LENGTH. */
    private static void perTooLong() {
        Kit.sentence("Promise 5: more than 65536: IndexOutOfBoundsException (in PER)");
        int extensions = 700;
        StringBuilder text = new StringBuilder("A::=SEQUENCE{a SEQUENCE OF S,b OCTET STRING} N::=INTEGER(0) S::=SEQUENCE{...");
        for (int i = 0; i < extensions; i++) {
            String second = i < 26 ? "" : Character.toString("abcdefghijklmnopqrstuvwxyz0123456789".charAt(i / 26 - 1));
            text.append(',').append((char) ('a' + i % 26)).append(second).append(" N");
        }
        Bench bench = new Bench("AUTOMATIC TAGS ", text + "} W::=CHOICE{n NULL,...,w A}");
        int bits = 2 + 16 + extensions + 16;
        int count = 65536 * 8 / bits - 2;
        int bytes = (65536 * 8 - 16 - count * bits - 16) / 8;
        for (int more = -1; more <= 1; more++) {
            SyntaxForge forge = bench.ready();
            Kit.lay(forge, Kit.ascii("{a{" + "{a 0},".repeat(count - 1) + "{a 0}},b'" + "00".repeat(bytes + more) + "'H}"));
            Kit.due("bytes in PER", Kit.ask(() -> forge.encode(0, 1)), more > 0 ? Bench.LONG : Integer.toString(65536 + more));
            Kit.due("THE TAPE", forge.count(0), 0);
            Kit.due("PLACE", forge.count(3), -1);
            Kit.due("THE RESULT", forge.count(1), more > 0 ? 5 : 65536 + more);
        }
        Kit.sentence("LENGTH and the bytes of a whole one: 80 c3, 49152 bytes, LENGTH 16380 and as many are 65536");
        for (int more = -1; more <= 1; more++) {
            SyntaxForge forge = bench.ready();
            Kit.lay(forge, Kit.ascii("w:{a{" + "{a 0},".repeat(count - 1) + "{a 0}},b'" + "00".repeat(bytes - 4 + more) + "'H}"));
            Kit.due("a whole one", Kit.ask(() -> forge.encode(3, 1)), more > 0 ? Bench.LONG : Integer.toString(65536 + more));
            Kit.due("THE RESULT", forge.count(1), more > 0 ? 5 : 65536 + more);
            Kit.due("its first bytes", forge.word(0) >>> 48, more > 0 ? 0x4703L : 0x80C3L);
            if (more <= 0) {
                Kit.due("the second LENGTH", forge.word(2 + 49152) >>> 48, 0xBFFCL + more);
            }
        }
    }

    private static void printedTooLong() {
        Kit.sentence("Promise 6: THE RESULT is it PRINTED; more than 65536: IndexOutOfBoundsException .. Answers how many bytes.");
        String name = "x".repeat(998);
        Bench bench = new Bench("A ::= SEQUENCE {a SEQUENCE OF ENUMERATED {" + name + "}, b UTF8String} B ::= SEQUENCE OF NULL");
        int fixed = "{a {}, b \"\"}".length() + 65 * 1000 - 2;
        for (int more = -1; more <= 1; more++) {
            SyntaxForge forge = bench.ready();
            int letters = 65536 - fixed + more;
            Kit.lay(forge, Kit.hex("41" + String.format("%04x", 0x8000 + letters) + "61".repeat(letters)));
            Kit.due("PER " + more, Kit.ask(() -> forge.decode(0, 1)), more > 0 ? Bench.LONG : Integer.toString(65536 + more));
            Kit.due("THE TAPE", forge.count(0), 0);
            Kit.due("PLACE", forge.count(3), 2);
            Kit.due("THE RESULT", forge.count(1), more > 0 ? 5 : 65536 + more);
            Kit.due("its first bytes", forge.word(0) >>> 32, more > 0 ? 0x4703C0FFL : 0x7B61207BL);
        }
        Kit.sentence("Promise 6: they are not, or more are behind .. before more than 65536");
        bench.decode(1, Bench.PER, "aaab00", Bench.NONE);
        bench.decode(1, Bench.PER, "aaab", Bench.LONG);
    }
}
