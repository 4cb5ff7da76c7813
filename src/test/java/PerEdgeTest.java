/** The edges of PER, and of promises 5 and 6 by it, sentence by sentence. */
final class PerEdgeTest {
    private static final int PER = Bench.PER;
    private static final String NONE = Bench.NONE;
    private static final String LONG = Bench.LONG;
    private static final String AUTOMATIC = "AUTOMATIC TAGS ";

    private PerEdgeTest() {
    }

    public static void main(String[] args) {
        fields();
        widestFields();
        lengths();
        lengthsInFragments();
        fragmentsDecoded();
        longFragments();
        booleansAndNulls();
        integersFromTheFirst();
        integersByLength();
        enumerated();
        sizesInAField();
        sizesOfOneNumber();
        sizesByLength();
        sizesNear65536();
        widthsOfUnits();
        objects();
        lists();
        parts();
        partsOfSets();
        alternatives();
        numbersBehindDots();
        sizesBehindDots();
        itemsBehindDots();
        alternativesBehindDots();
        smallNumbers();
        partsBehindDots();
        howManyExtensions();
        knownAndUnknown();
        wholeOnes();
        fillingBits();
        moreBehind();
        sixtyValues();
        lastOf65536();
        begunAhead();
        wholeWithoutBytes();
        wholeBegunAhead();
        depthBeforeTheOther();
        Kit.finish();
    }

    /** Bits, with blanks between, filled up to eights by 0. */
    private static String bits(String text) {
        StringBuilder plain = new StringBuilder(text.replace(" ", ""));
        while (plain.length() % 8 != 0) {
            plain.append('0');
        }
        StringBuilder hex = new StringBuilder();
        for (int i = 0; i < plain.length(); i += 8) {
            hex.append(String.format("%02x", Integer.parseInt(plain.substring(i, i + 8), 2)));
        }
        return hex.toString();
    }

    private static String binary(long n, int width) {
        StringBuilder text = new StringBuilder();
        for (int i = width - 1; i >= 0; i--) {
            text.append(n >>> i & 1);
        }
        return text.toString();
    }

    /** The 1 behind the field shows where it ends. */
    private static void field(long count, int width) {
        Bench bench = new Bench("A ::= SEQUENCE {a INTEGER (-3.." + (count - 4) + "), b BOOLEAN}");
        for (long n : new long[] {0, count / 2, count - 1}) {
            bench.per(0, "{a " + (n - 3) + ", b TRUE}", bits(binary(n, width) + "1"));
        }
        if (width < 62 && count < 1L << width) {
            bench.noPer(0, bits(binary(count, width) + "1"));
            bench.noPer(0, bits(binary((1L << width) - 1, width) + "1"));
        }
    }

    private static void fields() {
        Kit.sentence("PER: n in a field of r numbers: as few bits as can hold r - 1.");
        long[] counts = {1, 2, 3, 4, 5, 7, 8, 9, 15, 16, 17, 127, 128, 129, 255, 256, 257, 65535, 65536, 65537, 1L << 31, (1L << 31) + 1, 1L << 32, (1L << 32) + 1, 1L << 62};
        int[] widths = {0, 1, 2, 2, 3, 3, 3, 4, 4, 4, 5, 7, 7, 8, 8, 8, 9, 16, 16, 17, 31, 32, 32, 33, 62};
        for (int i = 0; i < counts.length; i++) {
            field(counts[i], widths[i]);
        }
    }

    private static void widestFields() {
        Kit.sentence("PER: n in a field of r numbers: as few bits as can hold r - 1.");
        Bench bench = new Bench("A ::= SEQUENCE {a INTEGER (-1..9223372036854775807), b BOOLEAN} B ::= SEQUENCE {a INTEGER (-9223372036854775807..9223372036854775807), b BOOLEAN} "
                + "C ::= SEQUENCE {a INTEGER (0..9223372036854775807), b BOOLEAN}");
        bench.per(0, "{a -1, b TRUE}", bits("0".repeat(64) + "1"));
        bench.per(0, "{a 9223372036854775807, b TRUE}", bits("1" + "0".repeat(63) + "1"));
        bench.noPer(0, bits("1" + "0".repeat(62) + "1" + "1"));
        bench.noPer(0, bits("1".repeat(64) + "1"));
        bench.per(1, "{a -9223372036854775807, b TRUE}", bits("0".repeat(64) + "1"));
        bench.per(1, "{a 9223372036854775807, b TRUE}", bits("1".repeat(63) + "0" + "1"));
        bench.per(1, "{a 0, b TRUE}", bits("0" + "1".repeat(63) + "1"));
        bench.noPer(1, bits("1".repeat(64) + "1"));
        bench.per(2, "{a 9223372036854775807, b TRUE}", bits("1".repeat(63) + "1"));
        bench.per(2, "{a 0, b TRUE}", bits("0".repeat(63) + "1"));
    }

    private static void lengths() {
        Kit.sentence("LENGTH n: below 128: a 0 and 7 bits; below 16384: 10 and 14 bits");
        Bench bench = new Bench("A ::= OCTET STRING B ::= BIT STRING");
        bench.per(0, "''H", "00");
        bench.per(0, "'AA'H", "01aa");
        bench.per(0, "'" + "AA".repeat(127) + "'H", "7f" + "aa".repeat(127));
        bench.per(0, "'" + "AA".repeat(128) + "'H", "8080" + "aa".repeat(128));
        bench.per(0, "'" + "AA".repeat(255) + "'H", "80ff" + "aa".repeat(255));
        bench.per(0, "'" + "AA".repeat(256) + "'H", "8100" + "aa".repeat(256));
        bench.encode(1, PER, "'" + "F".repeat(4095) + "'H", "bffc" + "ff".repeat(2047) + "f0");
        bench.decode(1, PER, "bfff" + "ff".repeat(2047) + "fe", "'" + "1".repeat(16383) + "'B");
        bench.noPer(0, "8000");
        bench.noPer(0, "8001aa");
        bench.noPer(0, "807f" + "aa".repeat(127));
        bench.noPer(0, "8080" + "aa".repeat(127));
        bench.noPer(0, "8080" + "aa".repeat(129));
        bench.noPer(0, "01");
        bench.noPer(0, "80");
        bench.noPer(0, "");
    }

    private static void lengthsInFragments() {
        Kit.sentence("LENGTH n: .. else 11 and 6 bits k, 1 .. 4, and k 16384 of what is counted, again and again (k 4 as long as can be), "
                + "at last (so behind each k below 4) a LENGTH below 16384.");
        Bench bench = new Bench("A ::= BIT STRING");
        bench.per(0, "'" + "F5".repeat(2048) + "'H", "c1" + "f5".repeat(2048) + "00");
        bench.per(0, "'" + "F5".repeat(2048) + "FF'H", "c1" + "f5".repeat(2048) + "08ff");
        bench.encode(0, PER, "'" + "F5".repeat(2048) + "F'H", "c1" + "f5".repeat(2048) + "04f0");
        bench.per(0, "'" + "F5".repeat(2048 + 16) + "'H", "c1" + "f5".repeat(2048) + "8080" + "f5".repeat(16));
        bench.encode(0, PER, "'" + "F5".repeat(4095) + "F'H", "c1" + "f5".repeat(2048) + "bffc" + "f5".repeat(2047) + "f0");
        bench.per(0, "'" + "F5".repeat(4096) + "'H", "c2" + "f5".repeat(4096) + "00");
        bench.encode(0, PER, "'" + "F5".repeat(4096) + "F'H", "c2" + "f5".repeat(4096) + "04f0");
    }

    private static void fragmentsDecoded() {
        Kit.sentence("LENGTH n: .. k, 1 .. 4, .. at last (so behind each k below 4) a LENGTH below 16384.");
        Bench bench = new Bench("A ::= BIT STRING");
        for (int k = 1; k <= 4; k++) {
            String head = String.format("%02x", 0xc0 + k) + "f5".repeat(2048 * k);
            bench.decode(0, PER, head + "00", "'" + "F5".repeat(2048 * k) + "'H");
            bench.decode(0, PER, head + "08ff", "'" + "F5".repeat(2048 * k) + "FF'H");
            bench.decode(0, PER, head + "8080" + "ff".repeat(16), "'" + "F5".repeat(2048 * k) + "FF".repeat(16) + "'H");
            bench.noPer(0, head);
            bench.noPer(0, head + "0000");
            bench.noPer(0, head + "08");
            bench.noPer(0, head + "8008ff");
            bench.noPer(0, head + "c0");
        }
        Bench zeros = new Bench("A ::= SEQUENCE OF INTEGER (0)");
        zeros.decode(0, PER, "c100", "{" + "0, ".repeat(16383) + "0}");
        zeros.decode(0, PER, "c102", "{" + "0, ".repeat(16385) + "0}");
        zeros.decode(0, PER, "c18080", "{" + "0, ".repeat(16384 + 127) + "0}");
        zeros.noPer(0, "c1");
        zeros.noPer(0, "c10000");
        zeros.noPer(0, "c1c100");
        zeros.decode(0, PER, "c200", LONG);
        bench.noPer(0, "c1" + "f5".repeat(2048) + "c1" + "f5".repeat(2048) + "00");
        bench.noPer(0, "c3" + "f5".repeat(6144) + "c1" + "f5".repeat(2048) + "00");
        bench.noPer(0, "c1" + "f5".repeat(2047) + "00");
        for (int k : new int[] {0, 5, 6, 8, 63}) {
            bench.noPer(0, String.format("%02x", 0xc0 + k) + "f5".repeat(8000));
            bench.noPer(0, String.format("%02x", 0xc0 + k) + "00");
        }
    }

    /** More than 512 calls: a BIT STRING of so many bits is not written otherwise. */
    private static void longFragments() {
        Kit.sentence("LENGTH n: .. k 16384 of what is counted, again and again (k 4 as long as can be)");
        SyntaxForge forge = new SyntaxForge();
        Kit.read(forge, "M DEFINITIONS ::= BEGIN A ::= BIT STRING END");
        int[] bytes = {6143, 6144, 8191, 8192, 8193, 10239, 10240, 16384, 16385};
        String[] heads = {"c2", "c3", "c3", "c4", "c4", "c4", "c4", "c4", "c4"};
        for (int i = 0; i < bytes.length; i++) {
            int n = bytes[i];
            String per = Kit.encode(forge, 0, PER, "'" + "F5".repeat(n) + "'H");
            int k = heads[i].charAt(1) - '0';
            String rest = lengthed(n - 2048 * k);
            Kit.due(n + " bytes", per, heads[i] + "f5".repeat(2048 * k) + rest);
            Kit.due(n + " bytes", Kit.decode(forge, 0, PER, Kit.hex(per)), "'" + "F5".repeat(n) + "'H");
        }
        Kit.read(forge, "M DEFINITIONS ::= BEGIN A ::= SEQUENCE OF INTEGER (0..1) END");
        for (int n : new int[] {16383, 16384, 16385, 16384 + 128}) {
            String per = Kit.encode(forge, 0, PER, "{" + "1,".repeat(n - 1) + "1}");
            String rest = n < 16384 ? "" : n - 16384 < 128 ? binary(n - 16384, 8) : "10" + binary(n - 16384, 14);
            Kit.due(n + " VALUES", per, n < 16384 ? bits("10" + binary(n, 14) + "1".repeat(n))
                    : bits("11000001" + "1".repeat(16384) + rest + "1".repeat(n - 16384)));
        }
    }

    /** LENGTH of so many bytes of bits, and they. */
    private static String lengthed(int n) {
        int count = 8 * n;
        if (count < 128) {
            return String.format("%02x", count) + "f5".repeat(n);
        }
        if (count < 16384) {
            return String.format("%04x", 0x8000 + count) + "f5".repeat(n);
        }
        int k = Math.min(4, count / 16384);
        return String.format("%02x", 0xc0 + k) + "f5".repeat(2048 * k) + lengthed(n - 2048 * k);
    }

    private static void booleansAndNulls() {
        Kit.sentence("A BOOLEAN is a bit");
        Bench bench = new Bench("A ::= BOOLEAN B ::= NULL C ::= SEQUENCE {a BOOLEAN, b NULL, c BOOLEAN} D ::= SEQUENCE {}");
        bench.per(0, "TRUE", "80");
        bench.per(0, "FALSE", "00");
        Kit.sentence("one byte at least; so THE RESULT.");
        bench.per(1, "NULL", "00");
        bench.per(3, "{}", "00");
        bench.noPer(0, "");
        bench.noPer(1, "");
        bench.noPer(3, "");
        bench.noPer(0, "8000");
        bench.noPer(1, "0000");
        bench.noPer(3, "0000");
        bench.per(2, "{a TRUE, b NULL, c TRUE}", "c0");
    }

    private static void integersFromTheFirst() {
        Kit.sentence("INTEGER: .. with the first alone: LENGTH in bytes, and N less it in as few bytes as can be (one for 0)");
        Bench bench = new Bench("A ::= INTEGER (5..MAX) B ::= INTEGER (-9223372036854775807..MAX) C ::= INTEGER (9223372036854775807..MAX) D ::= INTEGER (-1..MAX)");
        bench.per(0, "5", "0100");
        bench.per(0, "6", "0101");
        bench.per(0, "260", "01ff");
        bench.per(0, "261", "020100");
        bench.per(0, "65540", "02ffff");
        bench.per(0, "65541", "03010000");
        bench.per(0, "9223372036854775807", "087ffffffffffffffa");
        bench.noPer(0, "087ffffffffffffffb");
        bench.noPer(0, "088000000000000000");
        bench.noPer(0, "08ffffffffffffffff");
        bench.noPer(0, "09010000000000000000");
        bench.noPer(0, "09000000000000000001");
        bench.noPer(0, "00");
        bench.noPer(0, "020000");
        bench.noPer(0, "020001");
        bench.noPer(0, "0200ff");
        bench.noPer(0, "800105");
        bench.noPer(0, "01");
        bench.noPer(0, "0201");
        bench.noPer(0, "010100");
        bench.per(1, "-9223372036854775807", "0100");
        bench.per(1, "0", "087fffffffffffffff");
        bench.per(1, "1", "088000000000000000");
        bench.per(1, "9223372036854775807", "08fffffffffffffffe");
        bench.noPer(1, "08ffffffffffffffff");
        bench.per(2, "9223372036854775807", "0100");
        bench.noPer(2, "0101");
        bench.per(3, "-1", "0100");
        bench.per(3, "254", "01ff");
        bench.per(3, "9223372036854775807", "088000000000000000");
        bench.noPer(3, "088000000000000001");
    }

    private static void integersByLength() {
        Kit.sentence("INTEGER: .. else LENGTH and the bytes as BER has them.");
        Bench bench = new Bench("A ::= INTEGER B ::= INTEGER (MIN..5) C ::= INTEGER (MIN..MAX)");
        for (int t = 0; t < 3; t++) {
            bench.per(t, "0", "0100");
            bench.per(t, "-1", "01ff");
            bench.per(t, "-128", "0180");
            bench.per(t, "-129", "02ff7f");
            bench.per(t, "-9223372036854775807", "088000000000000001");
            bench.decode(t, PER, "088000000000000000", "-9223372036854775808");
            for (String wrong : new String[] {"00", "020000", "02007f", "02ff80", "02ffff", "09008000000000000000", "09ff7fffffffffffffff", "80010500", "01", "0201"}) {
                bench.noPer(t, wrong);
            }
        }
        bench.per(0, "127", "017f");
        bench.per(0, "128", "020080");
        bench.per(0, "9223372036854775807", "087fffffffffffffff");
        bench.per(1, "5", "0105");
        bench.noPer(1, "0106");
        bench.noPer(1, "087fffffffffffffff");
    }

    private static void enumerated() {
        Kit.sentence("ENUMERATED: which of ITEMS, as their numbers rise, in a field of so many.");
        Bench bench = new Bench("A ::= ENUMERATED {a} B ::= ENUMERATED {a(5), b(-5), c} C ::= ENUMERATED {a(3), b(2), c(1), d(0)} D ::= ENUMERATED {a, b, c, d, e}");
        bench.per(0, "a", "00");
        bench.per(1, "b", "00");
        bench.per(1, "c", "40");
        bench.per(1, "a", "80");
        bench.noPer(1, "c0");
        bench.per(2, "a", "c0");
        bench.per(2, "b", "80");
        bench.per(2, "c", "40");
        bench.per(2, "d", "00");
        bench.per(3, "e", "80");
        bench.noPer(3, "a0");
        bench.noPer(3, "e0");
    }

    private static void sizesInAField() {
        Kit.sentence("as many as SIZE says: .. in a field if the second is below 65536");
        Bench bench = new Bench("A ::= BIT STRING (SIZE (1..3)) B ::= OCTET STRING (SIZE (0..1)) C ::= IA5String (SIZE (1..5)) D ::= SEQUENCE SIZE (2..3) OF BOOLEAN "
                + "E ::= OCTET STRING (SIZE (0..65535)) F ::= OCTET STRING (SIZE (1..65535)) G ::= NumericString (SIZE (0..4))");
        bench.per(0, "'1'B", bits("00 1"));
        bench.per(0, "'11'B", bits("01 11"));
        bench.per(0, "'111'B", bits("10 111"));
        bench.noPer(0, bits("11 1111"));
        bench.per(1, "''H", bits("0"));
        bench.per(1, "'FF'H", bits("1 11111111"));
        bench.noPer(1, bits("1 1111111"));
        bench.per(2, "\"a\"", bits("000 1100001"));
        bench.per(2, "\"aaaaa\"", bits("100" + "1100001".repeat(5)));
        bench.noPer(2, bits("101" + "1100001".repeat(6)));
        bench.per(3, "{TRUE, TRUE}", bits("0 11"));
        bench.per(3, "{TRUE, TRUE, FALSE}", bits("1 110"));
        bench.per(4, "''H", "0000");
        bench.per(4, "'AA'H", "0001aa");
        bench.noPer(4, "ffff" + "aa".repeat(100));
        bench.per(5, "'AA'H", "0000aa");
        bench.per(5, "'AABB'H", "0001aabb");
        bench.noPer(5, "ffff" + "aa");
        bench.per(6, "\"0000\"", bits("100 0001 0001 0001 0001"));
        bench.noPer(6, bits("101 0001 0001 0001 0001 0001"));
    }

    private static void sizesOfOneNumber() {
        Kit.sentence("as many as SIZE says: nothing if that is one number below 65536");
        Bench bench = new Bench("A ::= BIT STRING (SIZE (5)) B ::= OCTET STRING (SIZE (2..2)) C ::= PrintableString (SIZE (1)) D ::= SET SIZE (3) OF BOOLEAN "
                + "E ::= OCTET STRING (SIZE (0)) F ::= SEQUENCE SIZE (65535) OF NULL G ::= SEQUENCE SIZE (65536) OF NULL H ::= BIT STRING (SIZE (65536)) "
                + "I ::= BIT STRING (SIZE (65528))");
        bench.per(0, "'10101'B", bits("10101"));
        bench.per(1, "'AABB'H", "aabb");
        bench.noPer(1, "aa");
        bench.noPer(1, "aabbcc");
        bench.per(2, "\"a\"", bits("1100001"));
        bench.per(3, "{TRUE, FALSE, TRUE}", bits("101"));
        bench.per(4, "''H", "00");
        bench.decode(5, PER, "00", LONG);
        bench.decode(5, PER, "0000", NONE);
        bench.decode(6, PER, "00", NONE);
        bench.decode(6, PER, "c400", LONG);
        bench.decode(7, PER, "c4" + "aa".repeat(8192) + "00", "'" + "AA".repeat(8192) + "'H");
        bench.decode(7, PER, "aa".repeat(8192), NONE);
        bench.decode(8, PER, "aa".repeat(8191), "'" + "AA".repeat(8191) + "'H");
        bench.decode(8, PER, "bfff" + "aa".repeat(8191), NONE);
    }

    private static void sizesByLength() {
        Kit.sentence("as many as SIZE says: .. else LENGTH (also where SIZE has no second, or there is none)");
        Bench bench = new Bench("A ::= OCTET STRING (SIZE (1..MAX)) B ::= OCTET STRING (SIZE (1..65536)) C ::= OCTET STRING D ::= SEQUENCE SIZE (1..MAX) OF BOOLEAN "
                + "E ::= IA5String (SIZE (0..9223372036854775807)) F ::= OCTET STRING (SIZE (65535..65536))");
        bench.per(0, "'AA'H", "01aa");
        bench.noPer(0, "00");
        bench.per(1, "'AA'H", "01aa");
        bench.noPer(1, "00");
        bench.noPer(1, "0000aa");
        bench.per(2, "'AA'H", "01aa");
        bench.per(2, "''H", "00");
        bench.per(3, "{TRUE}", "0180");
        bench.noPer(3, "00");
        bench.per(4, "\"\"", "00");
        bench.per(4, "\"a\"", "01c2");
        bench.noPer(5, "00aa");
    }

    private static void sizesNear65536() {
        Kit.sentence("in a field if the second is below 65536, else LENGTH");
        for (String base : new String[] {"BIT STRING", "OCTET STRING", "IA5String", "NumericString", "PrintableString", "VisibleString"}) {
            Bench bench = new Bench("A ::= " + base + " (SIZE (0..65535)) B ::= " + base + " (SIZE (0..65536)) C ::= " + base + " (SIZE (65535..65535, ...))");
            String none = base.endsWith("T STRING") ? "''H" : "\"\"";
            bench.per(0, none, "0000");
            bench.per(1, none, "00");
            bench.per(2, none, "8000");
        }
        for (String base : new String[] {"SEQUENCE", "SET"}) {
            Bench bench = new Bench("A ::= " + base + " SIZE (0..65535) OF NULL B ::= " + base + " SIZE (0..65536) OF NULL C ::= " + base + " SIZE (5..65535) OF NULL");
            bench.per(0, "{}", "0000");
            bench.per(0, "{NULL}", "0001");
            bench.per(1, "{NULL}", "01");
            bench.decode(0, PER, "ffff", LONG);
            bench.decode(2, PER, "fffb", NONE);
            bench.decode(2, PER, "fffa", LONG);
        }
    }

    private static void widthsOfUnits() {
        Kit.sentence("then bits, bytes, or characters in 7 bits (NumericString: 4, blank 0, 0 is 1; UTF8String: bytes, always LENGTH).");
        Bench bench = new Bench("A ::= BIT STRING B ::= OCTET STRING C ::= IA5String D ::= PrintableString E ::= VisibleString F ::= NumericString G ::= UTF8String");
        bench.per(0, "'101'B", bits("00000011 101"));
        bench.per(1, "'A5'H", bits("00000001 10100101"));
        bench.per(2, "\"\u0001\u007f\"", bits("00000010 0000001 1111111"));
        bench.per(3, "\"az\"", bits("00000010 1100001 1111010"));
        bench.per(4, "\" ~\"", bits("00000010 0100000 1111110"));
        bench.per(5, "\" 0123456789\"", bits("00001011 0000 0001 0010 0011 0100 0101 0110 0111 1000 1001 1010"));
        bench.noPer(5, bits("00000001 1011"));
        bench.noPer(5, bits("00000001 1111"));
        bench.per(6, "\"\u0001\u007f\"", bits("00000010 00000001 01111111"));
        bench.noPer(2, bits("00000001 0000000"));
        bench.noPer(4, bits("00000001 0011111"));
        bench.noPer(4, bits("00000001 1111111"));
    }

    private static void objects() {
        Kit.sentence("OBJECT IDENTIFIER: LENGTH, bytes of BER.");
        Bench bench = new Bench("A ::= OBJECT IDENTIFIER");
        bench.per(0, "{0 0}", "0100");
        bench.per(0, "{2 999 128}", "0488378100");
        for (String wrong : new String[] {"00", "0180", "028001", "022a80", "032a8001", "0b2a81808080808080808000", "8001", "022a"}) {
            bench.noPer(0, wrong);
        }
    }

    private static void lists() {
        Kit.sentence("OF: as many likewise, and each.");
        Bench bench = new Bench("A ::= SEQUENCE OF INTEGER (0..3) B ::= SET OF INTEGER (0..3) C ::= SEQUENCE SIZE (0..3) OF A");
        bench.per(0, "{}", "00");
        bench.per(0, "{3, 0, 1}", bits("00000011 11 00 01"));
        bench.per(1, "{3, 0, 1}", bits("00000011 11 00 01"));
        bench.per(2, "{{}, {2}}", bits("10 00000000 00000001 10"));
        bench.noPer(0, "03");
        bench.per(0, "{" + "1, ".repeat(126) + "1}", "7f" + bits("01".repeat(127)));
        bench.per(0, "{" + "1, ".repeat(127) + "1}", "8080" + bits("01".repeat(128)));
    }

    private static void parts() {
        Kit.sentence("SEQUENCE, SET ..: a bit for each OPTIONAL or DEFAULT one whether it is there, and those there.");
        Bench bench = new Bench(AUTOMATIC, "A ::= SEQUENCE {a BOOLEAN OPTIONAL, b BOOLEAN, c INTEGER (0..3) DEFAULT 1, d NULL OPTIONAL}");
        bench.per(0, "{b TRUE}", bits("000 1"));
        bench.per(0, "{a TRUE, b FALSE}", bits("100 1 0"));
        bench.per(0, "{b TRUE, c 2}", bits("010 1 10"));
        bench.per(0, "{a TRUE, b TRUE, c 3, d NULL}", bits("111 1 1 11"));
        bench.encode(0, PER, "{b TRUE, c 1}", bits("000 1"));
        bench.decode(0, PER, bits("010 1 01"), "{b TRUE}");
        Bench wide = new Bench("A ::= SEQUENCE {a [0] NULL OPTIONAL, b [1] NULL OPTIONAL, c [2] NULL OPTIONAL, d [3] NULL OPTIONAL, e [4] NULL OPTIONAL, f [5] NULL OPTIONAL, "
                + "g [6] NULL OPTIONAL, h [7] NULL OPTIONAL, i [8] BOOLEAN OPTIONAL}");
        wide.per(0, "{}", "0000");
        wide.per(0, "{h NULL, i TRUE}", "01c0");
        wide.noPer(0, "01");
    }

    private static void partsOfSets() {
        Kit.sentence("SEQUENCE, SET (PARTS as their first TAGS rise; of a CHOICE the least one)");
        Bench bench = new Bench("A ::= SET {a [1] INTEGER (0..3), b [APPLICATION 2] INTEGER (0..3) OPTIONAL, c INTEGER (0..3), d [PRIVATE 0] INTEGER (0..3) OPTIONAL, "
                + "e CHOICE {x [9] NULL, y [0] NULL, z [5] NULL}} B ::= SEQUENCE {a [1] INTEGER (0..3), b [0] INTEGER (0..3)}");
        bench.per(0, "{a 1, c 3, e x:NULL}", bits("00 11 10 01"));
        bench.per(0, "{a 1, b 2, c 3, d 0, e y:NULL}", bits("11 11 10 00 01 00"));
        bench.per(0, "{a 1, c 3, d 2, e z:NULL}", bits("01 11 01 01 10"));
        bench.per(1, "{a 1, b 2}", bits("01 10"));
    }

    private static void alternatives() {
        Kit.sentence("CHOICE: which, as their first TAGS rise, in a field, and its VALUE.");
        Bench bench = new Bench("A ::= CHOICE {a BOOLEAN} B ::= CHOICE {a [1] BOOLEAN, b [0] BOOLEAN, c [APPLICATION 7] BOOLEAN} "
                + "C ::= CHOICE {a [4] BOOLEAN, b CHOICE {x [9] BOOLEAN, y [3] BOOLEAN}, c [5] BOOLEAN, d [PRIVATE 0] BOOLEAN}");
        bench.per(0, "a:TRUE", bits("1"));
        bench.per(1, "c:TRUE", bits("00 1"));
        bench.per(1, "b:TRUE", bits("01 1"));
        bench.per(1, "a:TRUE", bits("10 1"));
        bench.noPer(1, bits("11 1"));
        bench.per(2, "b:x:TRUE", bits("00 1 1"));
        bench.per(2, "b:y:TRUE", bits("00 0 1"));
        bench.per(2, "a:TRUE", bits("01 1"));
        bench.per(2, "c:TRUE", bits("10 1"));
        bench.per(2, "d:TRUE", bits("11 1"));
    }

    private static void numbersBehindDots() {
        Kit.sentence("Where there is a ... : before all that a bit: 1 if N .. is not in what stands before the ... INTEGER then as without RANGE");
        Bench bench = new Bench("A ::= INTEGER (1..4, ...) B ::= INTEGER (5..MAX, ...) C ::= INTEGER (MIN..5, ...) D ::= INTEGER (MIN..MAX, ...) E ::= INTEGER (5, ...)");
        bench.per(0, "1", bits("0 00"));
        bench.per(0, "4", bits("0 11"));
        bench.per(0, "0", bits("1 00000001 00000000"));
        bench.per(0, "5", bits("1 00000001 00000101"));
        bench.noPer(0, bits("1 00000001 00000001"));
        bench.noPer(0, bits("1 00000001 00000100"));
        bench.noPer(0, bits("1 00000010 00000000 00000101"));
        bench.noPer(0, bits("1 00000000"));
        bench.per(1, "5", bits("0 00000001 00000000"));
        bench.per(1, "4", bits("1 00000001 00000100"));
        bench.noPer(1, bits("1 00000001 00000101"));
        bench.per(2, "5", bits("0 00000001 00000101"));
        bench.per(2, "6", bits("1 00000001 00000110"));
        bench.noPer(2, bits("1 00000001 00000101"));
        bench.noPer(2, bits("0 00000001 00000110"));
        bench.per(3, "6", bits("0 00000001 00000110"));
        bench.noPer(3, bits("1 00000001 00000110"));
        bench.per(4, "5", bits("0"));
        bench.per(4, "6", bits("1 00000001 00000110"));
        bench.noPer(4, bits("1 00000001 00000101"));
    }

    private static void sizesBehindDots() {
        Kit.sentence("Where there is a ... : .. 1 if .. the number of SIZE .. is not in what stands before the ... SIZE as if there were none");
        Bench bench = new Bench("A ::= BIT STRING (SIZE (1..2, ...)) B ::= OCTET STRING (SIZE (1, ...)) C ::= IA5String (SIZE (1..MAX, ...)) D ::= SEQUENCE SIZE (1..2, ...) OF BOOLEAN "
                + "E ::= NumericString (SIZE (0..MAX, ...)) F ::= OCTET STRING (SIZE (1..65536, ...))");
        bench.per(0, "'1'B", bits("0 0 1"));
        bench.per(0, "'11'B", bits("0 1 11"));
        bench.per(0, "''H", bits("1 00000000"));
        bench.per(0, "'111'B", bits("1 00000011 111"));
        bench.noPer(0, bits("1 00000001 1"));
        bench.noPer(0, bits("1 00000010 11"));
        bench.per(1, "'AA'H", bits("0 10101010"));
        bench.per(1, "''H", bits("1 00000000"));
        bench.per(1, "'AAAA'H", bits("1 00000010 1010101010101010"));
        bench.noPer(1, bits("1 00000001 10101010"));
        bench.per(2, "\"a\"", bits("0 00000001 1100001"));
        bench.per(2, "\"\"", bits("1 00000000"));
        bench.noPer(2, bits("0 00000000"));
        bench.noPer(2, bits("1 00000001 1100001"));
        bench.per(3, "{TRUE, TRUE}", bits("0 1 11"));
        bench.per(3, "{}", bits("1 00000000"));
        bench.per(3, "{TRUE, TRUE, TRUE}", bits("1 00000011 111"));
        bench.noPer(3, bits("1 00000010 11"));
        bench.per(4, "\"0\"", bits("0 00000001 0001"));
        bench.noPer(4, bits("1 00000001 0001"));
        bench.per(5, "'AA'H", bits("0 00000001 10101010"));
        bench.per(5, "''H", bits("1 00000000"));
        bench.noPer(5, bits("0 00000000"));
    }

    private static void itemsBehindDots() {
        Kit.sentence("ITEMS, ALTERNATIVES: SMALL which of those behind (in order)");
        Bench bench = new Bench("A ::= ENUMERATED {a, b, c, ..., d(9), e(10)} B ::= ENUMERATED {a, ...} C ::= ENUMERATED {a(5), b(4), ..., c(0), d(1)}");
        bench.per(0, "c", bits("0 10"));
        bench.noPer(0, bits("0 11"));
        bench.per(0, "d", bits("1 0 000000"));
        bench.per(0, "e", bits("1 0 000001"));
        bench.noPer(0, bits("1 0 000010"));
        bench.noPer(0, bits("1 0 111111"));
        bench.per(1, "a", bits("0"));
        bench.noPer(1, bits("1 0 000000"));
        bench.per(2, "b", bits("0 0"));
        bench.per(2, "a", bits("0 1"));
        bench.per(2, "c", bits("1 0 000000"));
        bench.per(2, "d", bits("1 0 000001"));
    }

    private static void alternativesBehindDots() {
        Kit.sentence("ALTERNATIVES, PARTS behind ... : LENGTH and the bytes of a whole one");
        Bench bench = new Bench("A ::= CHOICE {a [5] BOOLEAN, b [4] BOOLEAN, ..., c [3] BOOLEAN, d [0] NULL, e [1] OCTET STRING} B ::= CHOICE {a NULL, ...}");
        bench.per(0, "b:TRUE", bits("0 0 1"));
        bench.per(0, "a:TRUE", bits("0 1 1"));
        bench.per(0, "c:TRUE", bits("1 0 000000 00000001 10000000"));
        bench.per(0, "d:NULL", bits("1 0 000001 00000001 00000000"));
        bench.per(0, "e:'AA'H", bits("1 0 000010 00000010 00000001 10101010"));
        bench.noPer(0, bits("1 0 000011 00000001 00000000"));
        bench.noPer(0, bits("1 0 000000 00000000"));
        bench.noPer(0, bits("1 0 000000 00000010 10000000 00000000"));
        bench.noPer(0, bits("1 0 000010 00000001 00000001 10101010"));
        bench.noPer(0, bits("1 0 000010 00000010 00000010 10101010 10101010"));
        bench.noPer(0, bits("1 0 000010 00000010 00000000 00000000"));
        bench.per(1, "a:NULL", bits("0"));
        bench.noPer(1, bits("1 0 000000 00000001 00000000"));
        Bench lengths = new Bench("A ::= CHOICE {a NULL, ..., b OCTET STRING}");
        lengths.per(0, "b:'" + "AA".repeat(126) + "'H", "80" + "7f" + "7e" + "aa".repeat(126));
        lengths.per(0, "b:'" + "AA".repeat(127) + "'H", "80" + "8080" + "7f" + "aa".repeat(127));
    }

    /** IDS of two letters, so that 70 are short. */
    private static String many(String head, int count, String each) {
        StringBuilder text = new StringBuilder(head);
        for (int i = 0; i < count; i++) {
            text.append(", ").append((char) ('a' + i / 26)).append((char) ('a' + i % 26)).append(each);
        }
        return text + "}";
    }

    private static String nth(int i) {
        return "" + (char) ('a' + i / 26) + (char) ('a' + i % 26);
    }

    private static void smallNumbers() {
        Kit.sentence("SMALL ..: a 0 and 6 bits below 64, else a 1, LENGTH and bytes as few as can be.");
        Bench bench = new Bench(AUTOMATIC, many("A ::= ENUMERATED {r, ...", 300, "") + many(" B ::= CHOICE {r NULL, ...", 70, " NULL"));
        bench.per(0, nth(0), bits("1 0 000000"));
        bench.per(0, nth(63), bits("1 0 111111"));
        bench.per(0, nth(64), bits("1 1 00000001 01000000"));
        bench.per(0, nth(255), bits("1 1 00000001 11111111"));
        bench.per(0, nth(256), bits("1 1 00000010 00000001 00000000"));
        bench.per(0, nth(299), bits("1 1 00000010 00000001 00101011"));
        bench.noPer(0, bits("1 1 00000010 00000001 00101100"));
        bench.noPer(0, bits("1 1 00000001 00111111"));
        bench.noPer(0, bits("1 1 00000001 00000000"));
        bench.noPer(0, bits("1 1 00000010 00000000 01000000"));
        bench.noPer(0, bits("1 1 00000000"));
        bench.noPer(0, bits("1 1 00001000 11111111") + "ff".repeat(8));
        bench.noPer(0, bits("1 1 00001000" + "1".repeat(64)));
        bench.noPer(0, bits("1 1 00000100" + "1" + "0".repeat(31)));
        bench.noPer(0, bits("1 1 00000101" + "00000001" + "0".repeat(24) + "01000000"));
        bench.per(1, nth(63) + ":NULL", bits("1 0 111111 00000001 00000000"));
        bench.per(1, nth(64) + ":NULL", bits("1 1 00000001 01000000 00000001 00000000"));
        bench.noPer(1, bits("1 1 00000001 01000110 00000001 00000000"));
    }

    private static void partsBehindDots() {
        Kit.sentence("Where there is a ... : .. 1 if .. a PART behind it is there.");
        Bench bench = new Bench(AUTOMATIC, "A ::= SEQUENCE {a BOOLEAN, b BOOLEAN OPTIONAL, ..., c BOOLEAN, d NULL OPTIONAL, e INTEGER DEFAULT 5} B ::= SEQUENCE {...} C ::= SEQUENCE {..., a NULL} "
                + "D ::= SET {b [1] BOOLEAN, a [0] BOOLEAN OPTIONAL, ..., d [3] BOOLEAN, c [2] BOOLEAN}");
        bench.per(0, "{a TRUE}", bits("0 0 1"));
        bench.per(0, "{a TRUE, b TRUE}", bits("0 1 1 1"));
        Kit.sentence("behind the PARTS before ... : SMALL how many EXTENSIONS there are less 1 .., a bit for each whether it is there, and those there");
        bench.per(0, "{a TRUE, c TRUE}", bits("1 0 1 0 000010 100 00000001 10000000"));
        bench.per(0, "{a TRUE, d NULL}", bits("1 0 1 0 000010 010 00000001 00000000"));
        bench.per(0, "{a TRUE, b FALSE, c FALSE, d NULL, e 6}", bits("1 1 1 0 0 000010 111 00000001 00000000 00000001 00000000 00000010 00000001 00000110"));
        bench.encode(0, PER, "{a TRUE, e 5}", bits("0 0 1"));
        bench.per(1, "{}", bits("0"));
        bench.per(2, "{}", bits("0"));
        bench.per(2, "{a NULL}", bits("1 0 000000 1 00000001 00000000"));
        bench.per(3, "{b TRUE, d TRUE}", bits("1 0 1 0 000001 10 00000001 10000000"));
        bench.per(3, "{b TRUE, a FALSE, c TRUE}", bits("1 1 0 1 0 000001 01 00000001 10000000"));
    }

    private static void howManyExtensions() {
        Kit.sentence("SMALL how many EXTENSIONS there are less 1 (above 63: a 1 and LENGTH how many)");
        for (int n : new int[] {1, 2, 63, 64, 65, 66, 127, 128, 129}) {
            Bench bench = new Bench(AUTOMATIC, many("A ::= SEQUENCE {...", n, " NULL"));
            String count = n <= 64 ? "0" + binary(n - 1, 6) : "1" + (n < 128 ? binary(n, 8) : "10" + binary(n, 14));
            bench.per(0, "{" + nth(n - 1) + " NULL}", bits("1" + count + "0".repeat(n - 1) + "1" + "00000001 00000000"));
            bench.per(0, "{" + nth(0) + " NULL}", bits("1" + count + "1" + "0".repeat(n - 1) + "00000001 00000000"));
            Bench behind = new Bench(AUTOMATIC, many("A ::= SEQUENCE {r BOOLEAN, s BOOLEAN OPTIONAL, ...", n, " NULL"));
            behind.per(0, "{r TRUE, " + nth(n - 1) + " NULL}", bits("1 0 1" + count + "0".repeat(n - 1) + "1" + "00000001 00000000"));
        }
        Bench bench = new Bench("A ::= SEQUENCE {...}");
        Kit.sentence("above 63: a 1 and LENGTH how many (not below)");
        bench.decode(0, PER, bits("1 1 01000001" + "0".repeat(64) + "1 00000001 00000000"), "{}");
        bench.noPer(0, bits("1 1 01000000" + "0".repeat(63) + "1 00000001 00000000"));
        bench.noPer(0, bits("1 1 00000001 1 00000001 00000000"));
        bench.noPer(0, bits("1 1 00000000 00000001 00000000"));
        bench.noPer(0, bits("1 1 10 00000001000001" + "0".repeat(64) + "1 00000001 00000000"));
        bench.decode(0, PER, bits("1 1 10 00000010000000" + "0".repeat(127) + "1 00000001 00000000"), "{}");
        bench.decode(0, PER, bits("1 1 11000001" + "0".repeat(16383) + "1 00000000 00000001 00000000"), "{}");
        bench.decode(0, PER, bits("1 1 11000001" + "0".repeat(16384) + "00000001 1 00000001 00000000"), "{}");
        bench.noPer(0, bits("1 1 11000001" + "0".repeat(16384) + "00000001 0"));
        bench.noPer(0, bits("1 1 11000000 00000000"));
    }

    private static void knownAndUnknown() {
        Kit.sentence("(one at least; more bits than it knows: those are passed over; fewer: the others are not there)");
        Bench bench = new Bench(AUTOMATIC, "A ::= SEQUENCE {..., a BOOLEAN, b BOOLEAN}");
        bench.noPer(0, bits("1 0 000001 00"));
        bench.noPer(0, bits("1 0 000000 0"));
        bench.noPer(0, bits("1 0 000010 000"));
        bench.decode(0, PER, bits("1 0 000000 1 00000001 10000000"), "{a TRUE}");
        bench.decode(0, PER, bits("1 0 000010 100 00000001 10000000"), "{a TRUE}");
        bench.decode(0, PER, bits("1 0 000010 001 00000001 10000000"), "{}");
        bench.decode(0, PER, bits("1 0 000010 011 00000001 10000000 00000010 11111111 11111111"), "{b TRUE}");
        bench.decode(0, PER, bits("1 0 000011 1011 00000001 10000000 00000001 11111111 00000001 00000000"), "{a TRUE}");
        bench.decode(0, PER, bits("1 0 111111 01" + "1" + "0".repeat(60) + "1" + "00000001 10000000 00000001 11111111 00000001 00000000"), "{b TRUE}");
        bench.noPer(0, bits("1 0 000010 001"));
        bench.noPer(0, bits("1 0 000010 001 00000010 11111111"));
        bench.noPer(0, bits("1 0 000010 001 00000001 11111111 00000000"));
        bench.noPer(0, bits("1 0 000010 011 00000001 10000000"));
        bench.noPer(0, bits("1 0 000001 11 00000001 10000000"));
        bench.noPer(0, bits("1 0 000001 1"));
    }

    private static void wholeOnes() {
        Kit.sentence("A whole one has bits 0 behind up to eights, one byte at least");
        Bench bench = new Bench(AUTOMATIC, "A ::= SEQUENCE {..., a INTEGER (0..255), b NULL, c INTEGER (0..256), d A}");
        bench.per(0, "{a 7}", bits("1 0 000011 1000 00000001 00000111"));
        bench.per(0, "{b NULL}", bits("1 0 000011 0100 00000001 00000000"));
        bench.per(0, "{c 256}", bits("1 0 000011 0010 00000010 10000000 00000000"));
        bench.per(0, "{d {}}", bits("1 0 000011 0001 00000001 00000000"));
        bench.per(0, "{d {b NULL}}", bits("1 0 000011 0001 00000100 1 0 000011 0100 00000001 00000000 0000"));
        bench.noPer(0, bits("1 0 000011 1000 00000000"));
        bench.noPer(0, bits("1 0 000011 1000 00000010 00000111 00000000"));
        bench.noPer(0, bits("1 0 000011 0100 00000000"));
        bench.noPer(0, bits("1 0 000011 0100 00000010 00000000 00000000"));
        bench.noPer(0, bits("1 0 000011 0010 00000001 10000000"));
        bench.noPer(0, bits("1 0 000011 0010 00000011 10000000 00000000 00000000"));
        Kit.sentence("a whole one without bytes is none, where it is passed over too");
        bench.noPer(0, bits("1 0 000100 00001 00000000"));
        bench.decode(0, PER, bits("1 0 000100 00001 00000001 00000000"), "{}");
    }

    private static void fillingBits() {
        Kit.sentence("PER is decoded as it is encoded, but: .. bits behind that fill a byte may be any.");
        Bench bench = new Bench(AUTOMATIC, "A ::= BOOLEAN B ::= NULL C ::= INTEGER (0..255) D ::= SEQUENCE {..., a BOOLEAN} E ::= CHOICE {a NULL, ..., b INTEGER (0..256)}");
        bench.decode(0, PER, "ff", "TRUE");
        bench.decode(0, PER, "7f", "FALSE");
        bench.decode(1, PER, "ff", "NULL");
        bench.decode(1, PER, "01", "NULL");
        bench.per(2, "255", "ff");
        bench.decode(3, PER, "7f", "{}");
        bench.decode(3, PER, bits("1 0 000000 1 00000001 11111111 1111111"), "{a TRUE}");
        bench.decode(3, PER, bits("1 0 000000 1 00000001 01111111 0101010"), "{a FALSE}");
        bench.decode(4, PER, bits("1 0 000000 00000010 10000000 01111111"), "b:256");
    }

    private static void moreBehind() {
        Kit.sentence("Promise 6: The TAPE are bytes of a VALUE of TYPE t; they are not, or more are behind");
        Bench bench = new Bench("A ::= INTEGER (0..255) B ::= INTEGER (0..256) C ::= OCTET STRING D ::= SEQUENCE OF NULL");
        bench.noPer(0, "");
        bench.noPer(0, "0500");
        bench.per(1, "5", "0280");
        bench.noPer(1, "02");
        bench.noPer(1, "028000");
        bench.noPer(2, "01aa00");
        bench.noPer(3, "0300");
        bench.per(3, "{NULL, NULL, NULL}", "03");
    }

    private static void sixtyValues() {
        Kit.sentence("Promise 6: (more than 60 one within another, too: .. VALUES in PER)");
        Bench bench = new Bench("A ::= SEQUENCE OF A B ::= SEQUENCE {a B OPTIONAL} C ::= CHOICE {a [0] C, b NULL} D ::= SEQUENCE {..., a D} E ::= CHOICE {a NULL, ..., b [0] E} "
                + "F ::= SET {f F}");
        bench.per(0, "{".repeat(60) + "}".repeat(60), "01".repeat(59) + "00");
        bench.noPer(0, "01".repeat(60) + "00");
        bench.noPer(0, "01".repeat(60));
        bench.per(1, "{a ".repeat(59) + "{}" + "}".repeat(59), bits("1".repeat(59) + "0"));
        bench.noPer(1, bits("1".repeat(60) + "0"));
        bench.per(2, "a:".repeat(58) + "b:NULL", bits("1".repeat(58) + "0"));
        bench.noPer(2, bits("1".repeat(59) + "0"));
        bench.noPer(5, "00");
        bench.noPer(5, "00".repeat(20));
        deepWholeOnes(bench, 3, "{a ", "{}", "}", "1 0 000000 1", "0");
        deepWholeOnes(bench, 4, "b:", "a:NULL", "", "1 0 000000", "0");
        Kit.sentence("EXPLICIT tags are no VALUES of their own");
        StringBuilder text = new StringBuilder();
        for (int i = 0; i < 70; i++) {
            text.append("C").append(i).append("::=[0]C").append(i + 1).append(' ');
        }
        new Bench(text + "C70::=BOOLEAN").per(0, "TRUE", "80");
    }

    /** A VALUE in whole ones, each in the one before; what is in the last has so many VALUES of its own. */
    private static void deepWholeOnes(Bench bench, int t, String open, String last, String close, String head, String lastBits) {
        int own = last.equals("{}") ? 1 : 2;
        for (int n = 60 - own; n <= 61 - own; n++) {
            String inner = bits(lastBits);
            for (int i = 0; i < n; i++) {
                int length = inner.length() / 2;
                StringBuilder text = new StringBuilder(head.replace(" ", ""));
                text.append(length < 128 ? binary(length, 8) : "10" + binary(length, 14));
                for (int k = 0; k < inner.length(); k++) {
                    text.append(binary(Character.digit(inner.charAt(k), 16), 4));
                }
                inner = bits(text.toString());
            }
            String value = open.repeat(n) + last + close.repeat(n);
            if (n == 60 - own) {
                bench.per(t, value, inner);
            } else {
                bench.noPer(t, inner);
            }
        }
    }

    /** L is a list of B; each B in a B is its DEFAULT, so a B is PRINTED as {}, and each VALUE of a B takes a bit. */
    private static Bench lists(String more) {
        return new Bench("R ::= " + more + " L ::= SEQUENCE OF B B ::= SEQUENCE {a B DEFAULT {}}");
    }

    private static String listOf(int values) {
        int full = (values - 1) / 58;
        int rest = values - 1 - 58 * full;
        int all = full + (rest > 0 ? 1 : 0);
        StringBuilder text = new StringBuilder("10" + binary(all, 14));
        text.append(("1".repeat(57) + "0").repeat(full));
        return rest > 0 ? text + "1".repeat(rest - 1) + "0" : text.toString();
    }

    private static String printedListOf(int values) {
        int all = (values - 1 + 57) / 58;
        return "{" + "{}, ".repeat(all - 1) + "{}}";
    }

    private static void lastOf65536() {
        Kit.sentence("Promise 6: .. IndexOutOfBoundsException, and so as soon as the 65537th VALUE is begun (those in others count ..)");
        Bench bench = lists("SEQUENCE {l L, n NULL, m NULL OPTIONAL}");
        bench.decode(1, PER, bits(listOf(65535)), printedListOf(65535));
        bench.decode(1, PER, bits(listOf(65536)), printedListOf(65536));
        bench.decode(1, PER, bits(listOf(65537)), LONG);
        bench.decode(0, PER, bits("0" + listOf(65534)), "{l " + printedListOf(65534) + ", n NULL}");
        bench.decode(0, PER, bits("0" + listOf(65535)), LONG);
        bench.decode(0, PER, bits("1" + listOf(65533)), "{l " + printedListOf(65533) + ", n NULL, m NULL}");
        bench.decode(0, PER, bits("1" + listOf(65534)), LONG);
        Kit.sentence("Promise 6: (.. CHOICES too ..)");
        Bench chosen = lists("SEQUENCE {l L, c CHOICE {x CHOICE {y NULL}}}");
        chosen.decode(0, PER, bits(listOf(65532)), "{l " + printedListOf(65532) + ", c x:y:NULL}");
        chosen.decode(0, PER, bits(listOf(65533)), LONG);
    }

    private static void begunAhead() {
        Kit.sentence("Promise 6: one is begun ahead of its bytes");
        Bench bench = lists("SEQUENCE {l L, c CHOICE {x NULL, y OCTET STRING, z BOOLEAN}}");
        bench.decode(0, PER, bits(listOf(65533) + "00 1"), "{l " + printedListOf(65533) + ", c z:TRUE}");
        bench.decode(0, PER, bits(listOf(65534) + "00 1"), LONG);
        bench.decode(0, PER, bits(listOf(65534) + "00 1") + "00", LONG);
        bench.decode(0, PER, bits(listOf(65534) + "01 11111111"), LONG);
        bench.decode(0, PER, bits(listOf(65533) + "01 11111111"), NONE);
        bench.decode(0, PER, bits(listOf(65534) + "11 1"), NONE);
        bench.decode(0, PER, bits(listOf(65535) + "11 1"), LONG);
        Bench nulls = new Bench("A ::= SEQUENCE OF NULL B ::= SEQUENCE OF BOOLEAN");
        nulls.decode(0, PER, "c4", LONG);
        nulls.decode(0, PER, "c3bfff", LONG);
        nulls.decode(0, PER, "c3bfff00", NONE);
        nulls.decode(1, PER, "c4" + "00".repeat(8191), NONE);
        nulls.decode(1, PER, "c4" + "00".repeat(8192), LONG);
        nulls.decode(1, PER, "c4" + "00".repeat(8191) + "01", LONG);
    }

    private static void wholeWithoutBytes() {
        Kit.sentence("Promise 6: a whole one in PER without bytes is not (begun)");
        Bench bench = lists("SEQUENCE {l L, ..., n [0] BOOLEAN}");
        bench.decode(0, PER, bits("1" + listOf(65534) + "0 000000 1 00000001 10000000"), "{l " + printedListOf(65534) + ", n TRUE}");
        bench.decode(0, PER, bits("1" + listOf(65535) + "0 000000 1 00000001 10000000"), LONG);
        bench.decode(0, PER, bits("1" + listOf(65535) + "0 000000 1 00000000"), NONE);
        bench.decode(0, PER, bits("1" + listOf(65535) + "0 000001 01 00000001 10000000"), "{l " + printedListOf(65535) + "}");
        Bench chosen = lists("SEQUENCE {l L, c [0] CHOICE {x NULL, ..., y [0] NULL}}");
        chosen.decode(0, PER, bits(listOf(65533) + "1 0 000000 00000001 00000000"), "{l " + printedListOf(65533) + ", c y:NULL}");
        chosen.decode(0, PER, bits(listOf(65534) + "1 0 000000 00000001 00000000"), LONG);
        chosen.decode(0, PER, bits(listOf(65534) + "1 0 000000 00000000"), NONE);
        chosen.decode(0, PER, bits(listOf(65535) + "1 0 000000 00000000"), LONG);
    }

    private static void wholeBegunAhead() {
        Kit.sentence("Promise 6: one is begun ahead of its bytes; a whole one in PER without bytes is not");
        Bench part = lists("SEQUENCE {l L, ..., o OCTET STRING}");
        wholeAfter(part, "1", 65535, "0 000000 1");
        Bench alternative = lists("SEQUENCE {l L, c CHOICE {x NULL, ..., y OCTET STRING}}");
        wholeAfter(alternative, "", 65534, "1 0 000000");
        wholeInWhole();
        wholesOfNulls();
        passedOverAreNotBegun();
    }

    /** With so many VALUES in the list the whole one is the 65537th, with one less the 65536th. */
    private static void wholeAfter(Bench bench, String before, int values, String flags) {
        String[] lengths = {"00000001", "00000101", "01111111", "10 00000010000000", "10 11111111111111", "11 000001", "11 000010", "11 000011", "11 000100"};
        for (String length : lengths) {
            for (String rest : new String[] {"", "00000001 01000001"}) {
                bench.decode(0, PER, bits(before + listOf(values) + flags + length + rest), LONG);
                bench.decode(0, PER, bits(before + listOf(values - 1) + flags + length + rest), NONE);
            }
        }
        String[] noLengths = {"00000000", "10 00000000000000", "10 00000001111111", "11 000000", "11 000101", "11 111111"};
        for (String length : noLengths) {
            bench.decode(0, PER, bits(before + listOf(values) + flags + length + "00000001 01000001"), NONE);
            bench.decode(0, PER, bits(before + listOf(values - 1) + flags + length + "00000001 01000001"), NONE);
        }
    }

    /** The outer one has four bytes, 9 bits ahead of the LENGTH of the inner one, which has never so many as it says. */
    private static void wholeInWhole() {
        Kit.sentence("Promise 6: one is begun ahead of its bytes (a whole one in a whole one, too)");
        Bench bench = lists("SEQUENCE {l L, ..., s SEQUENCE {..., o OCTET STRING}}");
        String outer = "0 000000 1 00000100";
        String inner = "1 0 000000 1";
        for (String length : new String[] {"00000010 0000000 00000000", "00000011 0000000 00000000", "10 00000010000000 0000000", "11 000001 0000000 00000000"}) {
            for (String behind : new String[] {"", "00000000", "00000000".repeat(200)}) {
                String wanting = outer + inner + length + behind;
                bench.decode(0, PER, bits("1" + listOf(65534) + wanting), LONG);
                bench.decode(0, PER, bits("1" + listOf(65533) + wanting), NONE);
            }
        }
        String right = outer + inner + "00000001 00000000 0000000";
        bench.decode(0, PER, bits("1" + listOf(65533) + right), "{l " + printedListOf(65533) + ", s {o ''H}}");
        bench.decode(0, PER, bits("1" + listOf(65534) + right), LONG);
        bench.decode(0, PER, bits("1" + listOf(65534) + outer + inner + "00000000 00000000 0000000"), NONE);
        bench.decode(0, PER, bits("1" + listOf(65534) + "0 000000 1 00000010" + inner + "00000001 00000000"), NONE);
        bench.decode(0, PER, bits("1" + listOf(65534) + "0 000000 1 00010000" + inner + "00000001 00000000"), NONE);
        bench.decode(0, PER, bits("1" + listOf(65535) + "0 000000 1 00010000" + inner + "00000001 00000000"), LONG);
    }

    /** What is in a whole one is not begun if its bytes are not all there. */
    private static void wholesOfNulls() {
        Bench bench = new Bench("A ::= SEQUENCE {a SEQUENCE OF NULL, ..., b OCTET STRING} "
                + "B ::= SEQUENCE {a SEQUENCE OF NULL, b CHOICE {x NULL, ..., y OCTET STRING}} C ::= SEQUENCE {a SEQUENCE OF NULL, ..., b SEQUENCE OF NULL}");
        bench.decode(0, PER, "e1dfff008280a080", LONG);
        bench.decode(0, PER, "e1dffe808280a080", NONE);
        bench.decode(0, PER, "e1dfff00808080", LONG);
        bench.decode(0, PER, "e1dfff0080", NONE);
        bench.decode(0, PER, "e1dfff008000", NONE);
        bench.decode(1, PER, "c3bffd80050141", LONG);
        bench.decode(1, PER, "c3bffc80050141", NONE);
        bench.decode(1, PER, "c3bffd800141", LONG);
        bench.decode(1, PER, "c3bffd8000", NONE);
        bench.decode(1, PER, "c3bffd80", NONE);
        bench.decode(2, PER, "e1dffe80808080", LONG);
        bench.decode(2, PER, "e1dffe80810080", NONE);
    }

    private static void passedOverAreNotBegun() {
        Kit.sentence("more bits than it knows: those are passed over");
        Bench bench = lists("SEQUENCE {l L, ..., o OCTET STRING}");
        bench.decode(0, PER, bits("1" + listOf(65535) + "0 000001 01 00000010 00000000 00000000"), "{l " + printedListOf(65535) + "}");
        bench.decode(0, PER, bits("1" + listOf(65535) + "0 000001 01 00000101 00000000 00000000"), NONE);
        bench.decode(0, PER, bits("1" + listOf(65535) + "0 000001 01 11 000001 00000000 00000000"), NONE);
        bench.decode(0, PER, bits("1" + listOf(65535) + "0 000001 01 00000000"), NONE);
        Bench followed = lists("SEQUENCE {l L, s SEQUENCE {...}, n NULL}");
        followed.decode(0, PER, bits(listOf(65533) + "1 0 000000 1 00000001 00000000"), "{l " + printedListOf(65533) + ", s {}, n NULL}");
        followed.decode(0, PER, bits(listOf(65534) + "1 0 000000 1 00000001 00000000"), LONG);
        followed.decode(0, PER, bits(listOf(65534) + "1 0 000000 1 00000101 00000000"), NONE);
    }

    private static void depthBeforeTheOther() {
        Kit.sentence("Promise 6: (more than 60 one within another ..; this before the other): UnsupportedOperationException.");
        Bench bench = lists("SEQUENCE {l L, d D} D ::= SEQUENCE OF D");
        String deep = "00000001".repeat(58) + "00000000";
        String deeper = "00000001".repeat(59) + "00000000";
        bench.decode(0, PER, bits(listOf(65476) + deep), "{l " + printedListOf(65476) + ", d " + "{".repeat(59) + "}".repeat(59) + "}");
        bench.decode(0, PER, bits(listOf(65477) + deep), LONG);
        bench.decode(0, PER, bits(listOf(65476) + deeper), NONE);
        bench.decode(0, PER, bits(listOf(65477) + deeper), LONG);
        bench.decode(0, PER, bits(listOf(65475) + deeper), NONE);
    }
}
