/** Promise 5: VALUES, the PLACE of what is none, DER, PER and what is too long. */
final class EncodeTest {
    private static final String NONE = "UnsupportedOperationException@";
    private static final int DER = 0;
    private static final int PER = 1;

    private static SyntaxForge forge;

    private EncodeTest() {
    }

    public static void main(String[] args) {
        simpleValues();
        strings();
        composed();
        brokenValues();
        places();
        defaults();
        derOrder();
        longTags();
        perNumbers();
        perSizes();
        perComposed();
        perExtensions();
        perFragments();
        tooLong();
        annexA();
        Kit.finish();
    }

    private static void text(String mode, String assignments) {
        forge = new SyntaxForge();
        String answer = Kit.read(forge, "M DEFINITIONS " + mode + "::= BEGIN " + assignments + " END");
        Kit.due(assignments, Character.isDigit(answer.charAt(0)), true);
    }

    private static void due(int t, int codec, String value, String want) {
        String shown = value.length() > 200 ? value.substring(0, 200) : value;
        Kit.due(t + " " + codec + " " + shown, Kit.encode(forge, t, codec, value), want);
    }

    private static void both(int t, String value, String der, String per) {
        due(t, DER, value, der);
        due(t, PER, value, per);
    }

    private static void none(int t, String value, int place) {
        both(t, value, NONE + place, NONE + place);
    }

    private static void simpleValues() {
        text("", "A ::= BOOLEAN B ::= NULL C ::= INTEGER D ::= ENUMERATED {a, b(5), c, ..., d, e(9), f} E ::= OBJECT IDENTIFIER");
        both(0, "TRUE", "0101ff", "80");
        both(0, " FALSE --x", "010100", "00");
        none(0, "NULL", 0);
        none(0, "  1", 2);
        both(1, "NULL", "0500", "00");
        none(1, "TRUE", 0);
        both(2, "0", "020100", "0100");
        both(2, "-0", "020100", "0100");
        both(2, "127", "02017f", "017f");
        both(2, "128", "02020080", "020080");
        both(2, "-128", "020180", "0180");
        both(2, "- 129", "0202ff7f", "02ff7f");
        both(2, "9223372036854775807", "02087fffffffffffffff", "087fffffffffffffff");
        both(2, "-9223372036854775807", "02088000000000000001", "088000000000000001");
        none(2, "-9223372036854775808", 1);
        none(2, "a", 0);
        both(3, "a", "0a0100", "00");
        both(3, "c", "0a0101", "20");
        both(3, "b", "0a0105", "40");
        both(3, "d", "0a0106", "80");
        both(3, "e", "0a0109", "81");
        both(3, "f", "0a010a", "82");
        none(3, "g", 0);
        none(3, "5", 0);
        none(3, "a : 5", 0);
        both(4, "{0 0}", "060100", "0100");
        both(4, "{1 39 127 128}", "06044f7f8100", "044f7f8100");
        both(4, "{2 0}", "060150", "0150");
        both(4, "{2 999 3}", "0603883703", "03883703");
        both(4, "{2 9223372036854775727 9223372036854775807}",
                "0612ffffffffffffffff7fffffffffffffffff7f", "12ffffffffffffffff7fffffffffffffffff7f");
        none(4, "{2 9223372036854775728}", 0);
        none(4, "{1 40}", 0);
        none(4, "{3 0}", 0);
        none(4, "{}", 0);
        none(4, "{1}", 0);
        none(4, "{1, 2}", 0);
        none(2, "{1 2}", 0);
    }

    private static void strings() {
        text("", "A ::= BIT STRING B ::= OCTET STRING C ::= UTF8String D ::= PrintableString E ::= IA5String "
                + "F ::= NumericString G ::= VisibleString H ::= BIT STRING (SIZE (3..4)) I ::= OCTET STRING (SIZE (2)) "
                + "J ::= IA5String (SIZE (1..2, ...))");
        both(0, "''B", "030100", "00");
        both(0, "''H", "030100", "00");
        both(0, "'1'B", "03020780", "0180");
        both(0, "'1010 1010\n1'B", "030307aa80", "09aa80");
        both(0, "'A5C'H", "030304a5c0", "0ca5c0");
        both(0, "'0 --1--1'B", "03020640", "0240");
        none(0, "\"\"", 0);
        both(1, "''H", "0400", "00");
        both(1, "'0F'H", "04010f", "010f");
        both(1, "'00001111'B", "04010f", "010f");
        none(1, "'0'H", 0);
        none(1, "'0000111'B", 0);
        none(1, "'0f'H", 0);
        both(2, "\"a\"\"b\"", "0c03612262", "03612262");
        both(2, "\"\u0001\n\u007f\"", "0c03010a7f", "03010a7f");
        none(2, "\"\u0080\"", 0);
        none(2, "\"\u0000\"", 0);
        none(2, "\"x", 0);
        both(3, "\"AZaz09 '()+,-./:=?\"", "1312415a617a3039202728292b2c2d2e2f3a3d3f",
                "12" + seven("AZaz09 '()+,-./:=?"));
        for (String c : new String[] {"*", "&", ";", "<", ">", "@", "_", "\"\"", "!", "\t", "#"}) {
            none(3, "\"" + c + "\"", 0);
        }
        both(4, "\"\u0001\u007f\"", "1602017f", "0203fc");
        both(5, "\" 09\"", "1203203039", "0301a0");
        none(5, "\"a\"", 0);
        none(5, "\"-\"", 0);
        both(6, "\" ~\"", "1a02207e", "0241f8");
        none(6, "\"\u007f\"", 0);
        none(6, "\"\t\"", 0);
        both(7, "'000'B", "03020500", "00");
        both(7, "'F'H", "030204f0", "f8");
        none(7, "'00'B", 0);
        none(7, "'00000'B", 0);
        both(8, "'0102'H", "04020102", "0102");
        none(8, "'01'H", 0);
        none(8, "'010203'H", 0);
        both(9, "\"a\"", "160161", "3080");
        both(9, "\"\"", "1600", "8000");
        both(9, "\"aaa\"", "1603616161", "81e1c3" + "84");
    }

    /** Characters in 7 bits behind whole bytes. */
    private static String seven(String text) {
        StringBuilder bits = new StringBuilder();
        for (char c : text.toCharArray()) {
            bits.append(Integer.toBinaryString(128 + c).substring(1));
        }
        while (bits.length() % 8 != 0) {
            bits.append('0');
        }
        StringBuilder hex = new StringBuilder();
        for (int i = 0; i < bits.length(); i += 8) {
            hex.append(String.format("%02x", Integer.parseInt(bits.substring(i, i + 8), 2)));
        }
        return hex.toString();
    }

    private static void composed() {
        text("", "A ::= SEQUENCE {a INTEGER OPTIONAL, b BOOLEAN, c NULL OPTIONAL} B ::= SEQUENCE OF INTEGER (0..7) "
                + "C ::= SET SIZE (1..2) OF NULL D ::= CHOICE {x INTEGER, y NULL} E ::= [1] IMPLICIT D F ::= SEQUENCE {} "
                + "G ::= [2] IMPLICIT A H ::= [3] EXPLICIT A I ::= [4] IMPLICIT H J ::= [5] I");
        both(0, "{b TRUE}", "30030101ff", "20");
        both(0, "{a 1, b TRUE, c NULL}", "30080201010101ff0500", "c04060");
        both(1, "{}", "3000", "00");
        both(1, "{1, 7, 0}", "3009020101020107020100", "033c00");
        none(1, "{1, 8, -1}", 4);
        none(2, "{}", 0);
        both(2, "{NULL, NULL}", "310405000500", "80");
        none(2, "{NULL, NULL, NULL}", 0);
        both(3, "x : 1", "020101", "008080");
        both(3, "y:NULL", "0500", "80");
        both(4, "x : 1", "a103020101", "008080");
        both(5, "{}", "3000", "00");
        both(6, "{b TRUE}", "a2030101ff", "20");
        both(7, "{b TRUE}", "a30530030101ff", "20");
        both(8, "{b TRUE}", "a40530030101ff", "20");
        both(9, "{b TRUE}", "a507a40530030101ff", "20");
        text("IMPLICIT TAGS ", "A ::= [1] INTEGER B ::= [2] A C ::= [3] EXPLICIT B D ::= [4] C");
        due(0, DER, "5", "810105");
        due(1, DER, "5", "820105");
        due(2, DER, "5", "a303820105");
        due(3, DER, "5", "a403820105");
        text("AUTOMATIC TAGS ", "A ::= SEQUENCE {a INTEGER, b CHOICE {c INTEGER, d NULL}, ..., e SET {f [7] NULL, g NULL}}");
        due(0, DER, "{a 5, b c : 5, e {f NULL, g NULL}}", "300e800105a103800105a2040500" + "8700");
    }

    private static void brokenValues() {
        text("", "A ::= NULL B ::= SEQUENCE OF B");
        none(0, "", 0);
        none(0, "  ", 2);
        none(0, "NULL NULL", 5);
        none(0, "NULL }", 5);
        none(0, "NULL;", 4);
        none(0, "{a NULL, b}", 10);
        none(0, "{a NULL, NULL}", 9);
        none(0, "{a NULL b NULL}", 8);
        none(0, "{a}x", 3);
        none(0, "{NULL, a NULL}", 9);
        none(0, "{1 2 -3}", 5);
        none(0, "{1 2", 4);
        none(0, "{1 2 {", 5);
        none(0, "a : ", 4);
        none(0, "a : : NULL", 4);
        none(0, "a ::= NULL", 2);
        none(0, "{a :}", 4);
        none(0, "{,}", 1);
        none(0, "{1,}", 3);
        none(0, "{a #}", 3);
        none(0, "Null", 0);
        none(0, "BOOLEAN", 0);
        none(0, "MIN", 0);
        none(0, "-", 1);
        none(0, "- a", 2);
        none(0, "01", 0);
        both(1, "{".repeat(60) + "}".repeat(60), derLists(60), "01".repeat(59) + "00");
        none(1, "{".repeat(61) + "}".repeat(61), 60);
        none(1, "a:".repeat(61) + "NULL", 121);
        none(1, "{a ".repeat(61) + "NULL" + "}".repeat(61), 180);
        none(1, "{a b:".repeat(30) + "{", 150);
    }

    private static String derLists(int n) {
        String der = "3000";
        for (int i = 1; i < n; i++) {
            int length = der.length() / 2;
            der = (length < 128 ? "30" : "3081") + String.format("%02x", length) + der;
        }
        return der;
    }

    private static void places() {
        text("", "A ::= SEQUENCE {a INTEGER, b B OPTIONAL, c SEQUENCE SIZE (2) OF BOOLEAN, ..., d NULL} "
                + "B ::= CHOICE {x [0] INTEGER (0..9), y [1] A, z NULL}");
        none(0, "{b x : 1}", 0);
        none(0, "{a 1, e 5, c TRUE}", 0);
        none(0, "{a TRUE, e 5}", 3);
        none(0, "{a 1, c {TRUE, FALSE}, b z : NULL}", 0);
        none(0, "{a 1, a 1, c {TRUE, FALSE}}", 0);
        none(0, "{a 1}", 0);
        none(0, "{a 1, c {TRUE}}", 8);
        none(0, "{a 1, c {TRUE, FALSE, 7}}", 22);
        none(0, "{a 1, c {TRUE, FALSE, TRUE}}", 8);
        none(0, "{a 1, c {TRUE FALSE}}", 14);
        none(0, "{a 1, b w : TRUE, c {}}", 8);
        none(0, "{a 1, b x : TRUE, c {}}", 12);
        none(0, "{a 1, b x : -1, c {}}", 12);
        none(0, "{a 1, b y : {a 2}, c {}}", 12);
        none(0, "{a 1, b y : {a 2, c {a 1}}, c {}}", 20);
        none(0, "{a 1, b TRUE, c {}}", 8);
        none(0, "{a 1, c {TRUE, TRUE}, d 1}", 24);
        none(0, "{1, 2}", 0);
        none(0, "{1 2}", 0);
        none(0, "a : 1", 0);
        none(0, "5", 0);
        none(1, "{x 1}", 0);
        none(1, "x", 0);
        both(0, "{a 1, c {TRUE, TRUE}, d NULL}", "300d02010130060101ff0101ff0500", "804070101000");
    }

    private static void defaults() {
        text("", "A ::= SEQUENCE {a INTEGER DEFAULT 5, b SET OF INTEGER DEFAULT {1, 2}, c C DEFAULT {}, ..., d BOOLEAN DEFAULT TRUE} "
                + "C ::= SEQUENCE {x BIT STRING DEFAULT '0011'B, y C OPTIONAL} "
                + "D ::= SEQUENCE {a D DEFAULT {}} E ::= SET {e E DEFAULT {f {}}, f [0] F DEFAULT {}} F ::= SEQUENCE {g NULL OPTIONAL}");
        both(0, "{}", "3000", "00");
        both(0, "{a 5, b {2, 1}, c {x '3'H}, d TRUE}", "3000", "00");
        due(0, DER, "{a 6, b {2, 1, 1}, c {y {}}}", "3012020106310902010102010102010230" + "023000");
        due(0, DER, "{c {y {x '0011'B}}}", "300430023000");
        due(0, DER, "{d FALSE}", "3003010100");
        due(0, PER, "{d FALSE}", "80101000");
        due(2, DER, "{a {a {a {}}}}", "3000");
        due(2, PER, "{a {a {a {}}}}", "00");
        due(3, DER, "{e {f {}}, f {}}", "3100");
    }

    private static void derOrder() {
        text("", "A ::= SET OF OCTET STRING B ::= SET OF CHOICE {a INTEGER, b [0] INTEGER, c [APPLICATION 40] NULL, "
                + "d [APPLICATION 16384] IMPLICIT NULL, e [APPLICATION 16383] IMPLICIT NULL, f SEQUENCE {}} "
                + "C ::= SET {z [PRIVATE 1] NULL, y [1] NULL, x [APPLICATION 9] NULL, w BOOLEAN, "
                + "v CHOICE {i [0] NULL, j [UNIVERSAL 30] NULL}} D ::= SET OF BIT STRING E ::= SET OF SEQUENCE {a INTEGER OPTIONAL, b NULL} "
                + "F ::= SET OF INTEGER");
        due(0, DER, "{'02'H, '0101'H, '01'H, ''H, '0100'H, '01'H}", "3113" + "0400" + "040101" + "040101" + "040102" + "04020100" + "04020101");
        due(1, DER, "{f : {}, b : 1, a : 2, e : NULL, d : NULL, c : NULL, a : 1}",
                "311b" + "020101" + "020102" + "3000" + "5f81800000" + "5fff7f00" + "7f28020500" + "a003020101");
        due(2, DER, "{z NULL, y NULL, x NULL, w TRUE, v i : NULL}", "3113" + "0101ff" + "69020500" + "a0020500" + "a1020500" + "e1020500");
        due(2, DER, "{z NULL, y NULL, x NULL, w TRUE, v j : NULL}", "3113" + "0101ff" + "3e020500" + "69020500" + "a1020500" + "e1020500");
        due(3, DER, "{'1'B, '01'B, '11111111'B, ''B}", "310f" + "030100" + "030200ff" + "03020640" + "03020780");
        due(4, DER, "{{b NULL}, {a 1, b NULL}, {a 0, b NULL}}", "3112" + "30020500" + "30050201000500" + "30050201010500");
        due(5, DER, "{-1, 1, 256, -300, 128, 0}", "3115" + "020100" + "020101" + "0201ff" + "02020080" + "02020100" + "0202fed4");
    }

    private static void longTags() {
        text("IMPLICIT TAGS ", "A ::= [30] NULL B ::= [31] NULL C ::= [127] NULL D ::= [128] NULL E ::= [2147483647] NULL "
                + "F ::= OCTET STRING");
        due(0, DER, "NULL", "9e00");
        due(1, DER, "NULL", "9f1f00");
        due(2, DER, "NULL", "9f7f00");
        due(3, DER, "NULL", "9f810000");
        due(4, DER, "NULL", "9f87ffffff7f00");
        for (int n : new int[] {127, 128, 255, 256}) {
            String length = n < 128 ? "7f" : n < 256 ? String.format("81%02x", n) : "820100";
            due(5, DER, "'" + "AB".repeat(n) + "'H", "04" + length + "ab".repeat(n));
        }
    }

    private static void perNumbers() {
        text("", "A ::= INTEGER (5) B ::= INTEGER (1..4) C ::= INTEGER (-3..2) D ::= INTEGER (0..255) E ::= INTEGER (0..256) "
                + "F ::= INTEGER (5..MAX) G ::= INTEGER (MIN..5) H ::= INTEGER (1..4, ...) I ::= INTEGER (5..MAX, ...) "
                + "J ::= INTEGER (-9223372036854775807..9223372036854775807) K ::= INTEGER (-9223372036854775807..MAX) "
                + "L ::= INTEGER (0..9223372036854775807) N ::= INTEGER (7, ...)");
        due(0, PER, "5", "00");
        due(1, PER, "1", "00");
        due(1, PER, "4", "c0");
        none(1, "5", 0);
        none(1, "-1", 0);
        due(2, PER, "-3", "00");
        due(2, PER, "2", "a0");
        due(3, PER, "255", "ff");
        due(4, PER, "256", "8000");
        due(4, PER, "255", "7f80");
        due(5, PER, "5", "0100");
        due(5, PER, "260", "01ff");
        due(5, PER, "261", "020100");
        none(5, "4", 0);
        due(6, PER, "5", "0105");
        due(6, PER, "-129", "02ff7f");
        none(6, "6", 0);
        due(7, PER, "4", "60");
        both(7, "5", "020105", "808280");
        due(7, PER, "0", "808000");
        due(8, PER, "5", "008000");
        due(8, PER, "4", "808200");
        due(9, PER, "9223372036854775807", "fffffffffffffffe");
        due(9, PER, "0", "7fffffffffffffff");
        due(10, PER, "9223372036854775807", "08fffffffffffffffe");
        due(11, PER, "9223372036854775807", "fffffffffffffffe");
        due(12, PER, "7", "00");
        due(12, PER, "8", "808400");
    }

    private static void perSizes() {
        text("", "A ::= OCTET STRING (SIZE (0..3)) B ::= OCTET STRING (SIZE (2..MAX)) C ::= OCTET STRING (SIZE (1..65536)) "
                + "D ::= OCTET STRING (SIZE (1..65535)) E ::= OCTET STRING (SIZE (1, ...)) F ::= BIT STRING (SIZE (1..2, ...)) "
                + "G ::= NumericString (SIZE (3)) H ::= SEQUENCE SIZE (1..4) OF BOOLEAN I ::= SET SIZE (1, ...) OF BOOLEAN "
                + "J ::= OCTET STRING (SIZE (1..MAX, ...))");
        due(0, PER, "'FF'H", "7fc0");
        due(0, PER, "''H", "00");
        due(1, PER, "'0102'H", "020102");
        due(2, PER, "'01'H", "0101");
        due(3, PER, "'01'H", "000001");
        due(3, PER, "'0102'H", "00010102");
        due(4, PER, "'FF'H", "7f80");
        due(4, PER, "''H", "8000");
        due(4, PER, "'FFFF'H", "817fff80");
        due(5, PER, "'1'B", "20");
        due(5, PER, "'11'B", "70");
        due(5, PER, "'111'B", "81f0");
        due(6, PER, "\"0 9\"", "10a0");
        due(7, PER, "{TRUE}", "20");
        due(7, PER, "{TRUE, FALSE, TRUE, TRUE}", "ec");
        due(8, PER, "{TRUE}", "40");
        due(8, PER, "{}", "8000");
        due(8, PER, "{TRUE, TRUE}", "8160");
        due(9, PER, "'01'H", "008080");
        due(9, PER, "''H", "8000");
    }

    private static void perComposed() {
        text("", "A ::= CHOICE {a [2] NULL, b [1] BOOLEAN, c NULL} B ::= CHOICE {a BOOLEAN} "
                + "C ::= SET {a [2] BOOLEAN OPTIONAL, b [1] BOOLEAN, c CHOICE {x [3] NULL, y [0] BOOLEAN} OPTIONAL} "
                + "D ::= SET OF INTEGER (0..7) E ::= ENUMERATED {a(9), b(-1), c(3)}");
        due(0, PER, "c : NULL", "00");
        due(0, PER, "b : TRUE", "60");
        due(0, PER, "a : NULL", "80");
        due(1, PER, "a : TRUE", "80");
        due(2, PER, "{b TRUE}", "20");
        due(2, PER, "{a TRUE, b FALSE, c y : TRUE}", "d4");
        due(2, PER, "{a TRUE, b FALSE, c x : NULL}", "e8");
        due(3, PER, "{3, 1, 2}", "036500");
        due(4, PER, "a", "80");
        due(4, PER, "b", "00");
        due(4, PER, "c", "40");
    }

    private static void perExtensions() {
        StringBuilder many = new StringBuilder("A ::= SEQUENCE {...");
        StringBuilder items = new StringBuilder("B ::= ENUMERATED {r, ...");
        StringBuilder alternatives = new StringBuilder("C ::= CHOICE {r NULL, ...");
        for (int i = 0; i < 70; i++) {
            many.append(", p").append(i).append(" NULL");
            items.append(", i").append(i);
            alternatives.append(", a").append(i).append(" NULL");
        }
        text("AUTOMATIC TAGS ", many + "} " + items + "} " + alternatives + "} D ::= SEQUENCE {a BOOLEAN, ..., b BOOLEAN, c INTEGER} "
                + "E ::= SEQUENCE {...} F ::= SEQUENCE {a SEQUENCE {..., b SEQUENCE {..., c BOOLEAN}}, ...} "
                + "G ::= " + many.substring(6, many.indexOf(", p64")) + "} H ::= " + many.substring(6, many.indexOf(", p65")) + "}");
        due(0, PER, "{}", "00");
        due(0, PER, "{p0 NULL}", "d1a0" + "00".repeat(8) + "0100");
        due(1, PER, "r", "00");
        due(1, PER, "i0", "80");
        due(1, PER, "i63", "bf");
        due(1, PER, "i64", "c05000");
        due(2, PER, "r : NULL", "00");
        due(2, PER, "a0 : NULL", "800100");
        due(2, PER, "a64 : NULL", "c050004000");
        due(3, PER, "{a TRUE}", "40");
        due(3, PER, "{a TRUE, b TRUE}", "c0c03000");
        due(3, PER, "{a FALSE, b TRUE, c 5}", "80e030004020a0");
        due(3, DER, "{a FALSE, c 5}", "3006800100820105");
        due(4, PER, "{}", "00");
        due(5, PER, "{a {}}", "00");
        due(5, PER, "{a {b {c TRUE}}}", "40412020300000");
        due(6, PER, "{p63 NULL}", "bf" + "00".repeat(7) + "010100");
        due(7, PER, "{p64 NULL}", "d040" + "00".repeat(7) + "202000");
    }

    private static void perFragments() {
        text("", "A ::= BIT STRING B ::= BIT STRING (SIZE (1..40000)) C ::= BIT STRING (SIZE (1..70000))");
        due(0, PER, hexBits(16383), "bfff" + ones(16383));
        due(0, PER, hexBits(16384), "c1" + "ff".repeat(2048) + "00");
        due(0, PER, hexBits(16388), "c1" + "ff".repeat(2048) + "04f0");
        due(0, PER, hexBits(36000), "c2" + "ff".repeat(4096) + "8c" + "a0" + "ff".repeat(404));
        due(1, PER, hexBits(32000), "7cff" + ones(32000));
        due(2, PER, hexBits(32768), "c2" + "ff".repeat(4096) + "00");
    }

    private static String hexBits(int n) {
        return n % 4 == 0 ? "'" + "F".repeat(n / 4) + "'H" : "'" + "1".repeat(n) + "'B";
    }

    private static String ones(int n) {
        return "ff".repeat(n / 8) + (n % 8 == 0 ? "" : String.format("%02x", 255 << 8 - n % 8 & 255));
    }

    private static void tooLong() {
        StringBuilder chain = new StringBuilder("A ::= SEQUENCE OF T0 ");
        for (int i = 0; i < 300; i++) {
            chain.append("T").append(i).append("::=[1]T").append(i + 1).append(' ');
        }
        text("", chain + "T300 ::= NULL");
        due(0, DER, "{NULL}", "3082" + String.format("%04x", nested(300)) + nestedHex(300));
        int most = (65536 - 4) / nested(300);
        due(0, PER, "{" + "NULL,".repeat(100) + "NULL}", "65");
        String list = "{" + "NULL,".repeat(most - 1) + "NULL}";
        Kit.due("just fits", Kit.encode(forge, 0, DER, list).length() / 2, 4 + most * nested(300));
        int length = forge.count(1);
        String longer = "{" + "NULL,".repeat(most) + "NULL}";
        due(0, DER, longer, "IndexOutOfBoundsException");
        Kit.due("THE RESULT stays", forge.count(1), length);
        Kit.due("no PLACE", forge.count(3), -1);
        due(0, DER, "{" + "NULL,".repeat(most) + "TRUE}", NONE + (5 * most + 1));
        StringBuilder flags = new StringBuilder("A ::= SEQUENCE OF B N ::= NULL B ::= SEQUENCE {...");
        for (int i = 0; i < 600; i++) {
            flags.append(",p").append(i).append(" N");
        }
        text("AUTOMATIC TAGS ", flags + "} C ::= CHOICE {a NULL, ..., b A}");
        String one = "{p0 NULL}";
        Kit.due("one", Kit.encode(forge, 0, PER, "{" + one + "}").length() / 2, 81);
        int bits = 1 + 1 + 16 + 600 + 16;
        int count = 65536 * 8 / bits;
        String fits = "{" + (one + ",").repeat(count - 1) + one + "}";
        Kit.due("just fits", Kit.encode(forge, 0, PER, fits).length() / 2, (16 + count * bits + 7) / 8);
        String whole = Kit.encode(forge, 2 + 1, PER, "b : {" + (one + ",").repeat(299) + one + "}");
        int inner = (16 + 300 * bits + 7) / 8;
        Kit.due("a whole one in FRAGMENTS", whole.length() / 2, (8 + 8 + 16 + 8 * inner + 7) / 8);
        Kit.due("its head", whole.substring(0, 4), "80c1");
        due(0, PER, "{" + (one + ",").repeat(count) + one + "}", "IndexOutOfBoundsException");
        Kit.due("a whole one", Kit.encode(forge, 3, PER, "b : " + fits).length() / 2, (16 + count * bits + 7) / 8 + 4);
    }

    private static int nested(int n) {
        int length = 2;
        for (int i = 0; i < n; i++) {
            length += length < 128 ? 2 : length < 256 ? 3 : 4;
        }
        return length;
    }

    private static String nestedHex(int n) {
        String der = "0500";
        for (int i = 0; i < n; i++) {
            int length = der.length() / 2;
            der = "a1" + (length < 128 ? String.format("%02x", length) : length < 256 ? String.format("81%02x", length)
                    : String.format("82%04x", length)) + der;
        }
        return der;
    }

    /** X.691, annex A.1: the record in unaligned PER; X.690, annex A: in DER. */
    private static void annexA() {
        text("IMPLICIT TAGS ", "P ::= [APPLICATION 0] IMPLICIT SET { name Name, title [0] VisibleString, number EmployeeNumber, "
                + "dateOfHire [1] Date, nameOfSpouse [2] Name, children [3] IMPLICIT SEQUENCE OF Child DEFAULT {} } "
                + "Child ::= SET { name Name, dateOfBirth [0] Date } "
                + "Name ::= [APPLICATION 1] IMPLICIT SEQUENCE {givenName VisibleString, initial VisibleString, familyName VisibleString} "
                + "EmployeeNumber ::= [APPLICATION 2] IMPLICIT INTEGER Date ::= [APPLICATION 3] IMPLICIT VisibleString");
        both(0, "{name {givenName \"John\", initial \"P\", familyName \"Smith\"}, title \"Director\", number 51, "
                + "dateOfHire \"19710917\", nameOfSpouse {givenName \"Mary\", initial \"T\", familyName \"Smith\"}, "
                + "children {{name {givenName \"Ralph\", initial \"T\", familyName \"Smith\"}, dateOfBirth \"19571111\"}, "
                + "{name {givenName \"Susan\", initial \"B\", familyName \"Jones\"}, dateOfBirth \"19590717\"}}}",
                "607b61101a044a6f686e1a01501a05536d69746842013380084469726563746f7281083139373130393137a2101a044d6172791a01541a05"
                        + "536d697468a33e311d61111a0552616c70681a01541a05536d69746880083139353731313131311d61111a05537573616e1a01421a05"
                        + "4a6f6e657380083139353930373137",
                "824adfa3700d005a7b74f4d0026611134f2cb8fa6fe410c5cb762c1cb16e09370f2f20350169edd3d340102d2c3b386801a80b4f6e9e9a02"
                        + "18b96add8b162c4169f5e787700c20595bf765e610c5cb572c1bb16e");
    }
}
