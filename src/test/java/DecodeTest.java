/** Promise 6: bytes by DER, PER and BER, PRINTED, and what is none or too long. */
final class DecodeTest {
    private static final String NONE = "UnsupportedOperationException";
    private static final String LONG = "IndexOutOfBoundsException";
    private static final int DER = 0;
    private static final int PER = 1;
    private static final int BER = 2;

    private static SyntaxForge forge;

    private DecodeTest() {
    }

    public static void main(String[] args) {
        simple();
        headers();
        endMarks();
        strings();
        sequences();
        sets();
        lists();
        choices();
        defaults();
        passedOver();
        berDepth();
        perNumbers();
        perLengths();
        perStrings();
        perComposed();
        perExtensions();
        perDepth();
        perBits();
        tooLong();
        tooMany();
        olderTypes();
        Kit.finish();
    }

    private static void text(String mode, String assignments) {
        forge = new SyntaxForge();
        String answer = Kit.read(forge, "M DEFINITIONS " + mode + "::= BEGIN " + assignments + " END");
        Kit.due(assignments, Character.isDigit(answer.charAt(0)), true);
    }

    private static void due(int t, int codec, String hex, String want) {
        String shown = hex.length() > 200 ? hex.substring(0, 200) : hex;
        Kit.due(t + " " + codec + " " + shown, Kit.decode(forge, t, codec, Kit.hex(hex)), want);
    }

    /** By DER and by BER. */
    private static void both(int t, String hex, String want) {
        due(t, DER, hex, want);
        due(t, BER, hex, want);
    }

    private static void none(int t, String hex) {
        both(t, hex, NONE);
    }

    private static void onlyBer(int t, String hex, String want) {
        due(t, DER, hex, NONE);
        due(t, BER, hex, want);
    }

    private static void simple() {
        text("", "A ::= BOOLEAN B ::= NULL C ::= INTEGER D ::= ENUMERATED {a, b(-3), ..., c(300)} E ::= OBJECT IDENTIFIER "
                + "F ::= INTEGER (0..9) G ::= INTEGER (0..9, ...)");
        both(0, "0101ff", "TRUE");
        both(0, "010100", "FALSE");
        onlyBer(0, "010101", "TRUE");
        none(0, "0100");
        none(0, "01020000");
        none(0, "2101ff");
        none(0, "");
        none(0, "01");
        none(0, "0101");
        none(0, "0101ff00");
        none(0, "0201ff");
        both(1, "0500", "NULL");
        none(1, "050100");
        none(1, "0580");
        none(1, "25800000");
        both(2, "020100", "0");
        both(2, "0201ff", "-1");
        both(2, "02020080", "128");
        both(2, "0202ff7f", "-129");
        both(2, "02087fffffffffffffff", "9223372036854775807");
        both(2, "02088000000000000000", "-9223372036854775808");
        none(2, "0200");
        none(2, "02020000");
        none(2, "0202007f");
        none(2, "0202ff80");
        none(2, "0209008000000000000000");
        both(3, "0a0100", "a");
        both(3, "0a01fd", "b");
        both(3, "0a02012c", "c");
        none(3, "0a0101");
        none(3, "0a020000");
        both(4, "060100", "{0 0}");
        both(4, "060127", "{0 39}");
        both(4, "060128", "{1 0}");
        both(4, "06014f", "{1 39}");
        both(4, "060150", "{2 0}");
        both(4, "06027f00", "{2 47 0}");
        both(4, "0603883703", "{2 999 3}");
        both(4, "0609ffffffffffffffff7f", "{2 9223372036854775727}");
        both(4, "060a2affffffffffffffff7f", "{1 2 9223372036854775807}");
        none(4, "060a81808080808080808000");
        none(4, "060b2a81808080808080808000");
        none(4, "0600");
        none(4, "06028001");
        none(4, "06032a8001");
        none(4, "06022a81");
        both(5, "020109", "9");
        none(5, "02010a");
        none(5, "0201ff");
        both(6, "02010a", "10");
    }

    private static void headers() {
        text("", "A ::= [40] NULL B ::= [APPLICATION 2147483647] IMPLICIT NULL C ::= OCTET STRING D ::= [1] INTEGER");
        both(0, "bf28020500", "NULL");
        none(0, "bf8028020500");
        none(0, "9f28020500");
        none(0, "bf280205");
        none(0, "bf2802050000");
        none(0, "bf28030500");
        none(0, "bf2803050000");
        onlyBer(0, "bf288005000000", "NULL");
        due(0, BER, "bf28800500", NONE);
        due(0, BER, "bf2880050000", NONE);
        due(0, BER, "bf288005000001", NONE);
        due(0, BER, "bf28800000", NONE);
        due(0, BER, "bf288005000500" + "0000", NONE);
        none(0, "bf1e020500");
        none(0, "be020500");
        both(1, "5f87ffffff7f00", "NULL");
        none(1, "5f8fffffff7f00");
        none(1, "5f87ffffff");
        onlyBer(2, "048101aa", "'AA'H");
        onlyBer(2, "0484000000" + "01aa", "'AA'H");
        onlyBer(2, "04ff" + "00".repeat(126) + "01aa", "'AA'H");
        onlyBer(2, "048a" + "00".repeat(9) + "01aa", "'AA'H");
        due(2, BER, "048a01" + "00".repeat(8) + "01aa", NONE);
        due(2, BER, "0484ffffffffaa", NONE);
        none(2, "0480aa0000");
        both(2, "048180" + "aa".repeat(128), "'" + "AA".repeat(128) + "'H");
        onlyBer(2, "04820080" + "aa".repeat(128), "'" + "AA".repeat(128) + "'H");
        onlyBer(2, "04817f" + "aa".repeat(127), "'" + "AA".repeat(127) + "'H");
        both(3, "a103020105", "5");
        onlyBer(3, "a1800201050000", "5");
        none(3, "810105");
        none(3, "a10402010500");
        none(3, "a1060201050201" + "05");
        none(3, "a103020205");
    }

    /** Two bytes 0 where a VALUE would begin end what has the length 128 alone, also where they could be the VALUE. */
    private static void endMarks() {
        text("", "A ::= [1] EXPLICIT B B ::= [UNIVERSAL 0] IMPLICIT NULL C ::= [1] CHOICE {a [UNIVERSAL 0] IMPLICIT NULL} "
                + "D ::= [2] EXPLICIT A E ::= [3] CHOICE {b CHOICE {c B, d [4] B}} F ::= SEQUENCE OF B "
                + "G ::= SEQUENCE {a B OPTIONAL, ...} H ::= [1] EXPLICIT I I ::= [UNIVERSAL 0] IMPLICIT OCTET STRING");
        both(0, "a1020000", "NULL");
        due(0, BER, "a18000000000", NONE);
        due(0, BER, "a1800000", NONE);
        onlyBer(0, "a1800081000000", "NULL");
        due(0, BER, "a18000", NONE);
        both(1, "0000", "NULL");
        both(2, "a1020000", "a:NULL");
        due(2, BER, "a18000000000", NONE);
        due(2, BER, "a1800000", NONE);
        onlyBer(2, "a1800081000000", "a:NULL");
        both(3, "a204a1020000", "NULL");
        onlyBer(3, "a280a10200000000", "NULL");
        due(3, BER, "a206a18000000000", NONE);
        due(3, BER, "a280a180000000000000", NONE);
        due(3, BER, "a28000000000", NONE);
        both(4, "a3020000", "b:c:NULL");
        due(4, BER, "a38000000000", NONE);
        onlyBer(4, "a380a40200000000", "b:d:NULL");
        due(4, BER, "a380a480000000000000", NONE);
        both(5, "300400000000", "{NULL, NULL}");
        onlyBer(5, "30800000", "{}");
        due(5, BER, "308000000000", NONE);
        both(6, "30020000", "{a NULL}");
        onlyBer(6, "30800000", "{}");
        due(6, BER, "308000000000", NONE);
        onlyBer(7, "a1800001aa0000", "'AA'H");
        due(7, BER, "a18000000000", NONE);
        onlyBer(7, "a180208000000000", "''H");
    }

    private static void strings() {
        text("", "A ::= BIT STRING B ::= OCTET STRING C ::= UTF8String D ::= PrintableString E ::= [1] IMPLICIT IA5String "
                + "F ::= NumericString (SIZE (2)) G ::= VisibleString H ::= BIT STRING (SIZE (1..2)) I ::= OCTET STRING (SIZE (1, ...)) "
                + "J ::= [2] BIT STRING");
        both(0, "030100", "''H");
        both(0, "03020780", "'1'B");
        onlyBer(0, "030207ff", "'1'B");
        both(0, "030200a5", "'A5'H");
        both(0, "030304a5c0", "'101001011100'B");
        none(0, "0300");
        none(0, "030101");
        none(0, "03020880");
        onlyBer(0, "2300", "''H");
        onlyBer(0, "2308030200a5030204c0", "'101001011100'B");
        onlyBer(0, "23800302" + "00a523800302" + "04cf" + "0000" + "0000", "'101001011100'B");
        due(0, BER, "2308030204a0030200ff", NONE);
        due(0, BER, "2306030204a02300", NONE);
        due(0, BER, "2307030204a0030100", NONE);
        due(0, BER, "23040402ffff", NONE);
        due(0, BER, "23020300", NONE);
        onlyBer(0, "2303030100", "''H");
        both(1, "0400", "''H");
        both(1, "0402a50f", "'A50F'H");
        onlyBer(1, "2480040101040102240304010300" + "00", "'010203'H");
        due(1, BER, "24030c0101", NONE);
        due(1, BER, "240384" + "0101", NONE);
        due(1, BER, "2480040101", NONE);
        both(2, "0c03612262", "\"a\"\"b\"");
        both(2, "0c02017f", "\"\u0001\u007f\"");
        none(2, "0c0180");
        none(2, "0c0100");
        onlyBer(2, "2c06040161040162", "\"ab\"");
        due(2, BER, "2c030c0161", NONE);
        both(3, "13022741", "\"'A\"");
        none(3, "13012a");
        both(4, "810161", "\"a\"");
        onlyBer(4, "a103040161", "\"a\"");
        due(4, BER, "a103160161", NONE);
        none(4, "810100");
        both(5, "12022039", "\" 9\"");
        none(5, "120139");
        none(5, "1203303030");
        none(5, "12023a30");
        onlyBer(5, "3206040130040131", "\"01\"");
        both(6, "1a02207e", "\" ~\"");
        none(6, "1a017f");
        none(6, "1a011f");
        none(7, "030100");
        both(7, "03020640", "'01'B");
        none(7, "03020500");
        both(8, "0400", "''H");
        onlyBer(9, "a2802380030206400000" + "0000", "'01'B");
    }

    private static void sequences() {
        text("", "A ::= SEQUENCE {a INTEGER OPTIONAL, b BOOLEAN, c NULL OPTIONAL} B ::= SEQUENCE {} "
                + "C ::= SEQUENCE {a CHOICE {x INTEGER, y NULL} OPTIONAL, b [0] CHOICE {x INTEGER}}");
        both(0, "30030101ff", "{b TRUE}");
        both(0, "30080201050101ff0500", "{a 5, b TRUE, c NULL}");
        none(0, "30050101ff0201");
        none(0, "30060101ff020105");
        none(0, "3003020105");
        none(0, "3000");
        none(0, "30080201050101ff0501");
        none(0, "300a0201050101ff05000500");
        none(0, "10030101ff");
        none(0, "30040101ff00");
        none(0, "30050101ff0000");
        onlyBer(0, "30800101ff0000", "{b TRUE}");
        due(0, BER, "30800101ff", NONE);
        due(0, BER, "30800101ff00", NONE);
        due(0, BER, "30800101ff000000", NONE);
        both(1, "3000", "{}");
        onlyBer(1, "30800000", "{}");
        both(2, "3005a003020107", "{b x:7}");
        both(2, "30070500a003020107", "{a y:NULL, b x:7}");
        none(2, "30080201050201" + "05");
    }

    private static void sets() {
        text("", "A ::= SET {a INTEGER, b [APPLICATION 1] NULL OPTIONAL, c CHOICE {x [1] NULL, y BOOLEAN} OPTIONAL}");
        both(0, "3103020105", "{a 5}");
        both(0, "3107020105" + "61020500", "{a 5, b NULL}");
        onlyBer(0, "3107" + "61020500" + "020105", "{a 5, b NULL}");
        both(0, "310b020105" + "61020500" + "a1020500", "{a 5, b NULL, c x:NULL}");
        both(0, "310a0101ff" + "020105" + "61020500", "{a 5, b NULL, c y:TRUE}");
        onlyBer(0, "310b" + "a1020500" + "61020500" + "020105", "{a 5, b NULL, c x:NULL}");
        none(0, "3106020105020105");
        none(0, "310a0101ff" + "020105" + "a1020500");
        none(0, "3100");
        none(0, "310461020500");
        none(0, "3106020105" + "020106");
        none(0, "3105020105" + "0500");
        none(0, "3003020105");
    }

    private static void lists() {
        text("", "A ::= SEQUENCE SIZE (1..2) OF INTEGER B ::= SET OF OCTET STRING C ::= SET OF A D ::= SET SIZE (1, ...) OF NULL");
        both(0, "3003020105", "{5}");
        both(0, "3006020105020101", "{5, 1}");
        none(0, "3000");
        none(0, "3009020101020101020101");
        none(0, "30050201010500");
        both(1, "3100", "{}");
        both(1, "31080400040101040101", "{''H, '01'H, '01'H}");
        onlyBer(1, "3106040102040101", "{'02'H, '01'H}");
        onlyBer(1, "3107040200ff040101", "{'00FF'H, '01'H}");
        onlyBer(1, "3180040102040101" + "0000", "{'02'H, '01'H}");
        both(2, "310a" + "3003020107" + "3003020108", "{{7}, {8}}");
        onlyBer(2, "310a" + "3003020108" + "3003020107", "{{8}, {7}}");
        both(3, "310405000500", "{NULL, NULL}");
    }

    private static void choices() {
        text("", "A ::= CHOICE {a NULL, b [1] A, c [2] IMPLICIT INTEGER, ..., d BOOLEAN} B ::= [5] A C ::= [6] IMPLICIT B "
                + "D ::= CHOICE {e E, f [7] NULL} E ::= CHOICE {g BOOLEAN, h INTEGER}");
        both(0, "0500", "a:NULL");
        both(0, "a1020500", "b:a:NULL");
        both(0, "a104a1020500", "b:b:a:NULL");
        both(0, "820105", "c:5");
        both(0, "0101ff", "d:TRUE");
        none(0, "020105");
        none(0, "a203020105");
        both(1, "a5020500", "a:NULL");
        onlyBer(1, "a58005000000", "a:NULL");
        none(1, "0500");
        none(1, "8500");
        none(1, "a500");
        none(1, "a50405000500");
        both(2, "a6020500", "a:NULL");
        both(3, "0101ff", "e:g:TRUE");
        both(3, "020105", "e:h:5");
        both(3, "a7020500", "f:NULL");
    }

    private static void defaults() {
        text("", "A ::= SEQUENCE {a INTEGER DEFAULT 5, b SET OF INTEGER DEFAULT {1, 2}, ..., c BOOLEAN DEFAULT TRUE} "
                + "B ::= SET {a [0] B DEFAULT {}, b [1] NULL OPTIONAL}");
        both(0, "3000", "{}");
        onlyBer(0, "3003020105", "{}");
        both(0, "3003020106", "{a 6}");
        onlyBer(0, "30083106020102020101", "{}");
        onlyBer(0, "30083106020101020102", "{}");
        onlyBer(0, "30083106020103020101", "{b {3, 1}}");
        onlyBer(0, "30030101ff", "{}");
        onlyBer(0, "3003010101", "{}");
        both(0, "3003010100", "{c FALSE}");
        both(1, "3100", "{}");
        onlyBer(1, "3104a0023100", "{}");
        onlyBer(1, "3108a0063104a0023100", "{}");
        both(1, "3108a0063104a1020500", "{a {b NULL}}");
    }

    private static void passedOver() {
        text("", "A ::= SEQUENCE {a INTEGER, ...} B ::= SEQUENCE {a INTEGER OPTIONAL, ..., b BOOLEAN} C ::= SET {a INTEGER, ...} "
                + "D ::= SEQUENCE {...} E ::= SET OF D");
        both(0, "30050201050500", "{a 5}");
        both(0, "30070201050500" + "0500", "{a 5}");
        none(0, "30050500020105");
        both(0, "3006020105050100", "{a 5}");
        onlyBer(0, "3009020105" + "a0800000" + "0000", "{a 5}");
        onlyBer(0, "3080020105" + "a0802480000004000000" + "0000", "{a 5}");
        due(0, BER, "3007020105a0800000", "{a 5}");
        due(0, BER, "3005020105a080", NONE);
        due(0, BER, "30060201058080" + "00", NONE);
        both(0, "300702010530023080", "{a 5}");
        onlyBer(0, "3007020105" + "0581" + "0100", "{a 5}");
        both(0, "300a0201059f8fffffff7f00", "{a 5}");
        both(0, "3010020105" + "9f" + "ff".repeat(10) + "7f00", "{a 5}");
        none(0, "30070201059f807f00");
        both(1, "30020500", "{}");
        both(1, "30050500" + "0101ff", "{}");
        both(1, "30050101ff" + "0500", "{b TRUE}");
        both(1, "3006" + "0101ff" + "020105", "{b TRUE}");
        none(1, "300505000103ff");
        both(2, "31050500020105", "{a 5}");
        both(2, "31050201050500", "{a 5}");
        none(2, "31020500");
        both(2, "3109020105050005000500", "{a 5}");
        both(3, "3000", "{}");
        both(3, "30020000", "{}");
        onlyBer(3, "30800000", "{}");
        both(4, "310830020500" + "30020600", "{{}, {}}");
        onlyBer(4, "310830020600" + "30020500", "{{}, {}}");
    }

    private static String lists(int n, String inner) {
        String der = inner;
        for (int i = 0; i < n; i++) {
            int length = der.length() / 2;
            der = (length < 128 ? "30" : "3081") + String.format("%02x", length) + der;
        }
        return der;
    }

    private static void berDepth() {
        text("", "A ::= SEQUENCE OF A B ::= CHOICE {a [1] B, b NULL} C ::= SEQUENCE {c C OPTIONAL, ...} D ::= OCTET STRING "
                + "E ::= SEQUENCE OF CHOICE {e E, f NULL}");
        both(0, lists(60, ""), "{".repeat(60) + "}".repeat(60));
        none(0, lists(61, ""));
        due(0, BER, "3080".repeat(60) + "0000".repeat(60), "{".repeat(60) + "}".repeat(60));
        due(0, BER, "3080".repeat(61) + "0000".repeat(61), NONE);
        String chosen = "0500";
        for (int i = 1; i < 30; i++) {
            chosen = String.format("a1%02x", chosen.length() / 2) + chosen;
        }
        both(1, chosen, "a:".repeat(29) + "b:NULL");
        none(1, String.format("a1%02x", chosen.length() / 2) + chosen);
        both(2, lists(60, ""), "{c ".repeat(59) + "{}" + "}".repeat(59));
        none(2, lists(60, "0500"));
        both(2, lists(59, "0500"), "{c ".repeat(58) + "{}" + "}".repeat(58));
        due(2, BER, "3080".repeat(58) + "a080a080" + "0000".repeat(60), "{c ".repeat(57) + "{}" + "}".repeat(57));
        due(2, BER, "3080".repeat(58) + "a080a080a080" + "0000".repeat(61), NONE);
        both(2, lists(58, "3002a000"), "{c ".repeat(58) + "{}" + "}".repeat(58));
        due(3, BER, "2480".repeat(60) + "0000".repeat(60), "''H");
        due(3, BER, "2480".repeat(59) + "040101" + "0000".repeat(59), "'01'H");
        due(3, BER, "2480".repeat(60) + "040101" + "0000".repeat(60), NONE);
        both(4, lists(29, "0500"), "{e:".repeat(28) + "{f:NULL}" + "}".repeat(28));
        both(4, lists(30, ""), "{e:".repeat(29) + "{}" + "}".repeat(29));
        none(4, lists(31, ""));
        none(4, lists(30, "0500"));
    }

    private static void perNumbers() {
        text("", "A ::= INTEGER B ::= INTEGER (1..3) C ::= INTEGER (5..MAX) D ::= INTEGER (1..3, ...) E ::= INTEGER (MIN..5) "
                + "F ::= ENUMERATED {a, b, c} G ::= ENUMERATED {a(5), b(1), ..., c} H ::= BOOLEAN I ::= NULL "
                + "J ::= INTEGER (-9223372036854775807..MAX)");
        due(0, PER, "0105", "5");
        due(0, PER, "088000000000000000", "-9223372036854775808");
        due(0, PER, "00", NONE);
        due(0, PER, "020005", NONE);
        due(0, PER, "02ffff", NONE);
        due(0, PER, "09008000000000000000", NONE);
        due(0, PER, "800105", NONE);
        due(0, PER, "010500", NONE);
        due(0, PER, "01", NONE);
        due(0, PER, "", NONE);
        due(1, PER, "00", "1");
        due(1, PER, "bf", "3");
        due(1, PER, "c0", NONE);
        due(1, PER, "0000", NONE);
        due(2, PER, "0100", "5");
        due(2, PER, "020100", "261");
        due(2, PER, "020001", NONE);
        due(2, PER, "00", NONE);
        due(2, PER, "087ffffffffffffffa", "9223372036854775807");
        due(2, PER, "087ffffffffffffffb", NONE);
        due(2, PER, "08ffffffffffffffff", NONE);
        due(2, PER, "09010000000000000000", NONE);
        due(3, PER, "40", "3");
        due(3, PER, "808200", "4");
        due(3, PER, "808180", NONE);
        due(3, PER, "60", NONE);
        due(4, PER, "0105", "5");
        due(4, PER, "0106", NONE);
        due(5, PER, "80", "c");
        due(5, PER, "c0", NONE);
        due(6, PER, "00", "b");
        due(6, PER, "40", "a");
        due(6, PER, "80", "c");
        due(6, PER, "81", NONE);
        due(6, PER, "c04000", NONE);
        due(6, PER, "c00000", NONE);
        due(7, PER, "80", "TRUE");
        due(7, PER, "7f", "FALSE");
        due(7, PER, "", NONE);
        due(8, PER, "00", "NULL");
        due(8, PER, "ff", "NULL");
        due(8, PER, "", NONE);
        due(8, PER, "0000", NONE);
        due(9, PER, "08fffffffffffffffe", "9223372036854775807");
        due(9, PER, "08ffffffffffffffff", NONE);
    }

    private static void perLengths() {
        text("", "A ::= OCTET STRING B ::= SEQUENCE OF BOOLEAN C ::= BIT STRING D ::= NumericString");
        due(0, PER, "02aabb", "'AABB'H");
        due(0, PER, "8002aabb", NONE);
        due(0, PER, "807f" + "aa".repeat(127), NONE);
        due(0, PER, "8080" + "aa".repeat(128), "'" + "AA".repeat(128) + "'H");
        due(0, PER, "8080" + "aa".repeat(127), NONE);
        due(0, PER, "c1" + "aa".repeat(200), NONE);
        due(2, PER, "c1" + "ff".repeat(2048) + "00", "'" + "FF".repeat(2048) + "'H");
        due(2, PER, "c1" + "ff".repeat(2048) + "01ff", "'" + "1".repeat(16385) + "'B");
        due(2, PER, "c1" + "ff".repeat(2048) + "c1" + "ff".repeat(2048) + "00", NONE);
        due(2, PER, "c0" + "00", NONE);
        due(2, PER, "c5" + "ff".repeat(5 * 2048) + "00", NONE);
        due(2, PER, "c1" + "ff".repeat(2048), NONE);
        due(2, PER, "c1" + "ff".repeat(2048) + "0000", NONE);
        due(3, PER, "c1" + "11".repeat(8192) + "0110", "\"" + "0".repeat(16385) + "\"");
    }

    private static void perStrings() {
        text("", "A ::= IA5String B ::= NumericString C ::= PrintableString D ::= OCTET STRING (SIZE (1..3)) "
                + "E ::= OCTET STRING (SIZE (1..2, ...)) F ::= UTF8String G ::= OBJECT IDENTIFIER H ::= OCTET STRING (SIZE (2..MAX)) "
                + "I ::= BIT STRING (SIZE (3)) J ::= OCTET STRING (SIZE (2..MAX, ...)) K ::= VisibleString (SIZE (1..70000))");
        due(0, PER, "01c2", "\"a\"");
        due(0, PER, "01c3", "\"a\"");
        due(0, PER, "0100", NONE);
        due(1, PER, "02a0", "\"9 \"");
        due(1, PER, "01b0", NONE);
        due(2, PER, "0154", NONE);
        due(2, PER, "0182", "\"A\"");
        due(3, PER, "0040", "'01'H");
        due(3, PER, "8000000040", NONE);
        due(3, PER, "80404040", "'010101'H");
        due(3, PER, "c0404040", NONE);
        due(4, PER, "0040", "'01'H");
        due(4, PER, "8000", "''H");
        due(4, PER, "808080", NONE);
        due(4, PER, "8180808080", "'010101'H");
        due(5, PER, "0161", "\"a\"");
        due(5, PER, "0180", NONE);
        due(5, PER, "0100", NONE);
        due(6, PER, "022a03", "{1 2 3}");
        due(6, PER, "00", NONE);
        due(6, PER, "022a80", NONE);
        due(6, PER, "032a8001", NONE);
        due(7, PER, "020102", "'0102'H");
        due(7, PER, "0101", NONE);
        due(8, PER, "bf", "'101'B");
        due(8, PER, "ff00", NONE);
        due(9, PER, "01008100", "'0102'H");
        due(9, PER, "008080", NONE);
        due(9, PER, "808080", "'01'H");
        due(9, PER, "81008100", NONE);
        due(10, PER, "00", NONE);
        due(10, PER, "01c2", "\"a\"");
    }

    private static void perComposed() {
        text("", "A ::= SEQUENCE {a BOOLEAN OPTIONAL, b INTEGER (0..3) DEFAULT 2, c NULL} B ::= SEQUENCE SIZE (1..3) OF BOOLEAN "
                + "C ::= CHOICE {a [2] BOOLEAN, b [0] NULL, c [1] BOOLEAN} D ::= SET {a [2] BOOLEAN, b [1] BOOLEAN OPTIONAL, c [0] BOOLEAN} "
                + "E ::= SET OF BOOLEAN F ::= SEQUENCE SIZE (1, ...) OF BOOLEAN");
        due(0, PER, "00", "{c NULL}");
        due(0, PER, "a0", "{a TRUE, c NULL}");
        due(0, PER, "60", "{c NULL}");
        due(0, PER, "70", "{b 3, c NULL}");
        due(1, PER, "20", "{TRUE}");
        due(1, PER, "b8", "{TRUE, TRUE, TRUE}");
        due(1, PER, "f8", NONE);
        due(2, PER, "00", "b:NULL");
        due(2, PER, "60", "c:TRUE");
        due(2, PER, "a0", "a:TRUE");
        due(2, PER, "c0", NONE);
        due(3, PER, "40", "{a FALSE, c TRUE}");
        due(3, PER, "30", "{a TRUE, c FALSE}");
        due(3, PER, "b0", "{a TRUE, b TRUE, c FALSE}");
        due(4, PER, "0280", "{TRUE, FALSE}");
        due(5, PER, "40", "{TRUE}");
        due(5, PER, "8160", "{TRUE, TRUE}");
        due(5, PER, "80c0", NONE);
        due(5, PER, "8000", "{}");
    }

    private static void perExtensions() {
        text("AUTOMATIC TAGS ", "A ::= SEQUENCE {a BOOLEAN, ..., b BOOLEAN, c NULL} B ::= SEQUENCE {...} "
                + "C ::= CHOICE {a NULL, ..., b BOOLEAN, c NULL} D ::= SEQUENCE {..., a INTEGER DEFAULT 5}");
        due(0, PER, "40", "{a TRUE}");
        due(0, PER, "c0c03000", "{a TRUE, b TRUE}");
        due(0, PER, "c0c02fe0", "{a TRUE, b FALSE}");
        due(0, PER, "c0802000", NONE);
        due(0, PER, "c0402000", NONE);
        due(0, PER, "c0a02000", "{a TRUE, c NULL}");
        due(0, PER, "c0c04800" + "00", NONE);
        due(0, PER, "c0c000", NONE);
        due(0, PER, "c0404000", "{a TRUE, b FALSE}");
        due(0, PER, "c0406000", "{a TRUE, b TRUE}");
        due(0, PER, "c08000", NONE);
        due(1, PER, "00", "{}");
        due(1, PER, "80c04180", NONE);
        due(1, PER, "80808080", "{}");
        due(1, PER, "80800000", NONE);
        due(1, PER, "8000", NONE);
        due(2, PER, "00", "a:NULL");
        due(2, PER, "800180", "b:TRUE");
        due(2, PER, "8001ff", "b:TRUE");
        due(2, PER, "80028000", NONE);
        due(2, PER, "8000", NONE);
        due(2, PER, "8101ff", "c:NULL");
        due(2, PER, "82" + "0100", NONE);
        due(3, PER, "00", "{}");
        due(3, PER, "808100" + "8280", "{}");
        due(3, PER, "8081008300", "{a 6}");
    }

    private static void perDepth() {
        text("", "A ::= SEQUENCE OF A B ::= SEQUENCE {b B OPTIONAL} C ::= SEQUENCE {c C} D ::= CHOICE {d [0] D, e NULL}");
        due(0, PER, "01".repeat(59) + "00", "{".repeat(60) + "}".repeat(60));
        due(0, PER, "01".repeat(60) + "00", NONE);
        due(1, PER, "ff".repeat(7) + "e0", "{b ".repeat(59) + "{}" + "}".repeat(59));
        due(1, PER, "ff".repeat(7) + "f0", NONE);
        due(2, PER, "00", NONE);
        due(3, PER, "ff".repeat(7) + "c0", "d:".repeat(58) + "e:NULL");
        due(3, PER, "ff".repeat(7) + "e0", NONE);
    }

    private static void perBits() {
        text("AUTOMATIC TAGS ", "A ::= SEQUENCE {..., a NULL}");
        due(0, PER, bits("1 1 01000001 1" + " 0".repeat(64) + " 00000001 00000000"), "{a NULL}");
        due(0, PER, bits("1 1 01000001 1" + " 0".repeat(63) + " 1 00000001 00000000 00000010 01010101 11111111"), "{a NULL}");
        due(0, PER, bits("1 1 01000001" + " 0".repeat(64) + " 1 00000010 01010101 11111111"), "{}");
        due(0, PER, bits("1 1 01000001" + " 0".repeat(65)), NONE);
        due(0, PER, bits("1 1 01000000 1" + " 0".repeat(63) + " 00000001 00000000"), NONE);
        due(0, PER, bits("1 0 111111 1" + " 0".repeat(63) + " 00000001 00000000"), "{a NULL}");
        due(0, PER, bits("1 0 000001 1 1 00000001 00000000 00000000"), NONE);
        due(0, PER, bits("1 0 000001 1 1 00000001 00000000 00000001"), NONE);
        due(0, PER, bits("1 0 000001 1 1 00000001 00000000 00000001 00000000"), "{a NULL}");
        due(0, PER, bits("1 1 11000001 1" + " 0".repeat(16383) + " 00000000 00000001 00000000"), "{a NULL}");
        due(0, PER, bits("1 1 11000001 1" + " 0".repeat(16383) + " 00000001 1 00000001 00000000 00000001 00000000"), "{a NULL}");
        due(0, PER, bits("1 1 11000001" + " 0".repeat(16384) + " 00000000"), NONE);
    }

    private static String bits(String text) {
        StringBuilder plain = new StringBuilder(text.replace(" ", ""));
        while (plain.length() % 8 != 0) {
            plain.append('1');
        }
        StringBuilder hex = new StringBuilder();
        for (int i = 0; i < plain.length(); i += 8) {
            hex.append(String.format("%02x", Integer.parseInt(plain.substring(i, i + 8), 2)));
        }
        return hex.toString();
    }

    private static void tooLong() {
        String name = "x".repeat(64);
        text("", "A ::= SEQUENCE OF ENUMERATED {" + name + "} B ::= SEQUENCE OF NULL C ::= SEQUENCE OF BOOLEAN");
        int most = (65536 - 2 + 2) / 66;
        due(0, PER, String.format("%04x", 0x8000 + most), "{" + (name + ", ").repeat(most - 1) + name + "}");
        Kit.due("length", forge.count(1), 66 * most);
        due(0, PER, String.format("%04x", 0x8000 + most + 1), LONG);
        Kit.due("THE RESULT stays", forge.count(1), 66 * most);
        due(0, PER, String.format("%04x", 0x8000 + most + 1) + "00", NONE);
        due(1, PER, String.format("%04x", 0x8000 + 10922), "{" + "NULL, ".repeat(10921) + "NULL}");
        Kit.due("just fits", forge.count(1), 65532);
        due(1, PER, String.format("%04x", 0x8000 + 10923), LONG);
    }

    private static void tooMany() {
        text("AUTOMATIC TAGS ", "A ::= SEQUENCE OF NULL B ::= SEQUENCE OF BOOLEAN C ::= SEQUENCE {a A, b BOOLEAN} "
                + tree()
                + "E ::= SEQUENCE {a A, b CHOICE {c NULL, ..., d NULL}} F ::= SEQUENCE {a A, ..., b NULL} "
                + "G ::= SEQUENCE OF G1 G1 ::= SEQUENCE OF G2 G2 ::= SEQUENCE OF NULL");
        due(0, PER, "c400", LONG);
        due(0, PER, "c4", LONG);
        due(0, PER, "c3" + "bfff", LONG);
        due(0, PER, "c3", NONE);
        due(0, PER, "c3c100", NONE);
        due(1, PER, "c4" + "ff".repeat(8191), NONE);
        due(1, PER, "c4" + "ff".repeat(8191) + "fe", LONG);
        due(1, PER, "c4" + "ff".repeat(8190), NONE);
        due(2, PER, "c3bffd", NONE);
        due(2, PER, "c3bffe", LONG);
        due(2, PER, "c3bffd80", LONG);
        due(2, PER, "c3bffd8000", NONE);
        due(3, PER, "00", LONG);
        due(3, PER, "", LONG);
        due(3, PER, "00".repeat(3), LONG);
        int e = 12;
        due(e, PER, "c3bffc8000", NONE);
        due(e, PER, "c3bffc8100", NONE);
        due(e, PER, "c3bffd00", LONG);
        due(e, PER, "c3bffd8000", NONE);
        due(e, PER, "c3bffd800100", LONG);
        int f = e + 1;
        due(f, PER, bits("1 11000011" + " 10 11111111111101 0 000000 1 00000000"), NONE);
        due(f, PER, bits("1 11000011" + " 10 11111111111110 0 000000 1 00000000"), NONE);
        due(f, PER, bits("1 11000011" + " 10 11111111111110 0 000000 1 00000001 00000000"), LONG);
        due(f, PER, bits("1 11000011" + " 10 11111111111111 0 000000 1 00000001 00000000"), LONG);
        due(f + 1, PER, "ff".repeat(10), NONE);
        due(f + 1, PER, "c4" + "00".repeat(10), NONE);
        due(f + 1, PER, "01c4c4", LONG);
        choicesCount();
    }

    /** Nine TYPES, with 87381 VALUES that take no bit. */
    private static String tree() {
        StringBuilder text = new StringBuilder();
        for (int i = 0; i < 8; i++) {
            text.append("D").append(i).append(" ::= SEQUENCE {a D, b D, c D, d D} ".replace("D,", "D" + (i + 1) + ",")
                    .replace("D}", "D" + (i + 1) + "}"));
        }
        return text + "D8 ::= NULL ";
    }

    /** In BER a CHOICE costs no byte, so that VALUES can be more than half the bytes. */
    private static void choicesCount() {
        StringBuilder chain = new StringBuilder("A ::= SEQUENCE OF C1 S ::= SET {a [1] A, b [2] IMPLICIT NULL OPTIONAL, "
                + "x [3] SEQUENCE OF NULL} ");
        for (int i = 1; i < 40; i++) {
            chain.append("C").append(i).append("::=CHOICE{c C").append(i + 1).append("} ");
        }
        text("", chain + "C40 ::= NULL");
        due(0, BER, list("30", "0500".repeat(2)), "{" + "c:".repeat(39) + "NULL, " + "c:".repeat(39) + "NULL}");
        due(0, BER, list("30", "0500".repeat(1638)), LONG);
        due(0, BER, list("30", "0500".repeat(1638) + "0100"), NONE);
        due(0, BER, list("30", "0500".repeat(1638) + "0501"), LONG);
        due(0, BER, list("30", "0500".repeat(1639) + "0100"), LONG);
        due(0, DER, list("30", "0500".repeat(1639) + "0100"), LONG);
        String a = list("a1", list("30", "0500".repeat(1638)));
        String twice = "82008200";
        due(1, BER, list("31", a + list("a3", list("30", "0500".repeat(11))) + twice), NONE);
        due(1, BER, list("31", a + list("a3", list("30", "0500".repeat(12))) + twice), LONG);
        due(1, BER, list("31", a + list("a3", list("30", "0500".repeat(12))) + "8200" + "8400"), NONE);
        due(1, BER, list("31", a + list("a3", list("30", "0500".repeat(12))) + "8200" + "82"), LONG);
        due(1, BER, list("31", a + list("a3", list("30", "0500".repeat(12))) + "8200" + "9f"), NONE);
    }

    /** What a newer TYPE encodes, an older one reads, but for what it does not know. */
    private static void olderTypes() {
        text("AUTOMATIC TAGS ", "Old ::= SEQUENCE {a INTEGER, ..., b BOOLEAN} "
                + "New ::= SEQUENCE {a INTEGER, ..., b BOOLEAN, c OCTET STRING, d SEQUENCE OF New, e NULL} "
                + "Olds ::= SEQUENCE OF Old News ::= SEQUENCE OF New");
        String[] rests = {"", ", c 'AABB'H", ", d {}", ", d {{a 7, c ''H}, {a 8, b TRUE}}", ", c '01'H, d {{a 1}}, e NULL", ", e NULL"};
        StringBuilder news = new StringBuilder();
        StringBuilder olds = new StringBuilder();
        for (String known : new String[] {"a 5", "a -300, b TRUE"}) {
            for (String rest : rests) {
                String value = "{" + known + rest + "}";
                due(0, DER, Kit.encode(forge, 1, DER, value), "{" + known + "}");
                due(0, BER, Kit.encode(forge, 1, DER, value), "{" + known + "}");
                due(0, PER, Kit.encode(forge, 1, PER, value), "{" + known + "}");
                due(1, PER, Kit.encode(forge, 0, PER, "{" + known + "}"), "{" + known + "}");
                news.append(news.length() == 0 ? "{" : ", ").append(value);
                olds.append(olds.length() == 0 ? "{" : ", ").append("{").append(known).append("}");
            }
        }
        due(2, DER, Kit.encode(forge, 3, DER, news + "}"), olds + "}");
        due(2, PER, Kit.encode(forge, 3, PER, news + "}"), olds + "}");
    }

    private static String list(String identifier, String contents) {
        return identifier + String.format("82%04x", contents.length() / 2) + contents;
    }
}
