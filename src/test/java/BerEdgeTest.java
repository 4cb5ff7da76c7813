/** The edges of BER and DER, and of promise 6 by them, sentence by sentence. */
final class BerEdgeTest {
    private static final int DER = Bench.DER;
    private static final int BER = Bench.BER;
    private static final String NONE = Bench.NONE;
    private static final String LONG = Bench.LONG;

    private BerEdgeTest() {
    }

    public static void main(String[] args) {
        identifiers();
        constructedBit();
        shortLengths();
        longLengths();
        lengthAlone();
        zerosThatAreNoEnd();
        booleans();
        integers();
        enumerated();
        nulls();
        bitStrings();
        octetsInPieces();
        bitsInPieces();
        stringsInPieces();
        objects();
        explicit();
        sequences();
        passedOverInSequences();
        sets();
        passedOverInSets();
        lists();
        defaults();
        derLengths();
        derSets();
        derSetsOf();
        moreBehind();
        sixtyIdentifiers();
        sixtyChoices();
        sixtyExplicit();
        sixtyPassedOver();
        sixtyPieces();
        lastOf65536();
        begunAheadOfItsBytes();
        begunBehindItsIdentifier();
        begunThoughItWasThere();
        depthBeforeTheOther();
        Kit.finish();
    }

    private static void identifiers() {
        Kit.sentence("Identifier: class times 64, 32 if constructed, and the number below 31, else 31 and the number in sevens of bits, the highest first, "
                + "not beginning with 0, 128 added to all but the last.");
        String[] numbers = {"0", "1", "30", "31", "127", "128", "16383", "16384", "2097151", "2097152", "268435455", "268435456", "2147483647"};
        String[] sevens = {"", "", "", "1f", "7f", "8100", "ff7f", "818000", "ffff7f", "81808000", "ffffff7f", "8180808000", "87ffffff7f"};
        String[] sorts = {"UNIVERSAL ", "APPLICATION ", "", "PRIVATE "};
        for (int sort = 0; sort < 4; sort++) {
            for (int i = 0; i < numbers.length; i++) {
                int low = sevens[i].isEmpty() ? Integer.parseInt(numbers[i]) : 31;
                Bench bench = new Bench("A ::= [" + sorts[sort] + numbers[i] + "] IMPLICIT NULL B ::= [" + sorts[sort] + numbers[i] + "] EXPLICIT NULL");
                bench.der(0, "NULL", String.format("%02x", 64 * sort + low) + sevens[i] + "00");
                bench.der(1, "NULL", String.format("%02x", 64 * sort + 32 + low) + sevens[i] + "020500");
                bench.noBer(0, String.format("%02x", 64 * sort + 32 + low) + sevens[i] + "00");
                bench.noBer(0, String.format("%02x", (64 * sort + 64 & 255) + low) + sevens[i] + "00");
                if (!sevens[i].isEmpty()) {
                    bench.noBer(0, String.format("%02x", 64 * sort + low) + "80" + sevens[i] + "00");
                    bench.noBer(0, String.format("%02x", 64 * sort + low) + sevens[i].substring(0, sevens[i].length() - 2));
                } else {
                    bench.noBer(0, String.format("%02x%02x", 64 * sort + 31, low) + "00");
                    bench.noBer(0, String.format("%02x80%02x", 64 * sort + 31, low) + "00");
                }
            }
        }
        Bench bench = new Bench("A ::= [2147483647] IMPLICIT NULL B ::= [0] IMPLICIT NULL");
        bench.noBer(0, "9f8fffffff7f00");
        bench.noBer(0, "9f" + "818080808080808087ffffff7f" + "00");
        bench.noBer(1, "9f");
        bench.noBer(1, "9f8100");
        bench.noBer(1, "9f" + "81" + "80".repeat(8) + "00" + "00");
        bench.noBer(1, "9f" + "81" + "80".repeat(18) + "00" + "00");
    }

    private static void constructedBit() {
        Kit.sentence("Identifier: .. 32 if constructed");
        Bench bench = new Bench("A ::= SEQUENCE {} B ::= SET {} C ::= SEQUENCE OF NULL D ::= SET OF NULL E ::= [0] EXPLICIT NULL F ::= [0] CHOICE {a NULL} "
                + "G ::= BOOLEAN H ::= OBJECT IDENTIFIER I ::= [0] IMPLICIT SEQUENCE {}");
        bench.der(0, "{}", "3000");
        bench.noBer(0, "1000");
        bench.der(1, "{}", "3100");
        bench.noBer(1, "1100");
        bench.noBer(2, "1000");
        bench.noBer(3, "1100");
        bench.noBer(4, "80020500");
        bench.noBer(5, "80020500");
        bench.noBer(6, "2101ff");
        bench.noBer(7, "26012a");
        bench.der(8, "{}", "a000");
        bench.noBer(8, "8000");
    }

    private static String bytes(int n) {
        return "aa".repeat(n);
    }

    private static String value(int n) {
        return "'" + "AA".repeat(n) + "'H";
    }

    private static void shortLengths() {
        Kit.sentence("Length: below 128");
        Bench bench = new Bench("A ::= OCTET STRING");
        bench.der(0, value(0), "0400");
        bench.der(0, value(1), "0401aa");
        bench.der(0, value(127), "047f" + bytes(127));
        bench.noBer(0, "0401");
        bench.noBer(0, "0400aa");
        bench.noBer(0, "047f" + bytes(126));
        bench.noBer(0, "047f" + bytes(128));
        bench.noBer(0, "04");
        bench.noBer(0, "");
    }

    private static void longLengths() {
        Kit.sentence("Length: .. or 128 and how many bytes follow with it");
        Bench bench = new Bench("A ::= OCTET STRING B ::= SEQUENCE {a OCTET STRING}");
        bench.der(0, value(128), "048180" + bytes(128));
        bench.der(0, value(255), "0481ff" + bytes(255));
        bench.der(0, value(256), "04820100" + bytes(256));
        bench.onlyBer(0, "048100", value(0));
        bench.onlyBer(0, "04817f" + bytes(127), value(127));
        bench.onlyBer(0, "04820080" + bytes(128), value(128));
        bench.onlyBer(0, "048200ff" + bytes(255), value(255));
        bench.onlyBer(0, "0483000100" + bytes(256), value(256));
        bench.onlyBer(0, "048400000001" + bytes(1), value(1));
        bench.onlyBer(0, "0488" + "00".repeat(7) + "01" + bytes(1), value(1));
        bench.onlyBer(0, "04ff" + "00".repeat(126) + "01" + bytes(1), value(1));
        bench.noBer(0, "0481");
        bench.noBer(0, "0482" + "01");
        bench.noBer(0, "0481ff" + bytes(254));
        bench.noBer(0, "048180" + bytes(129));
        bench.noBer(0, "04820100" + bytes(255));
        bench.noBer(0, "0484ffffffff" + bytes(1));
        bench.noBer(0, "048480000001" + bytes(1));
        bench.noBer(0, "04850100000001" + bytes(1));
        bench.noBer(0, "0488" + "ff".repeat(8) + bytes(1));
        bench.noBer(0, "0488" + "8000000000000001" + bytes(1));
        bench.noBer(0, "0489" + "010000000000000001" + bytes(1));
        bench.noBer(0, "04ff01" + "00".repeat(125) + "01" + bytes(1));
        Kit.sentence("Length: what is in a VALUE is not longer than it");
        bench.noBer(1, "30030402aaaa");
        bench.noBer(1, "30040402aa");
        bench.der(1, "{a 'AAAA'H}", "30040402aaaa");
    }

    private static void lengthAlone() {
        Kit.sentence("Length: .. 128 alone (constructed ones): up to two bytes 0 where a VALUE would begin.");
        Bench bench = new Bench("A ::= SEQUENCE {a OCTET STRING OPTIONAL} B ::= OCTET STRING C ::= NULL D ::= [1] EXPLICIT OCTET STRING E ::= SET {a NULL OPTIONAL} "
                + "F ::= SEQUENCE OF OCTET STRING G ::= SET OF NULL H ::= [1] CHOICE {a NULL}");
        bench.onlyBer(0, "30800000", "{}");
        bench.onlyBer(0, "308004020000" + "0000", "{a '0000'H}");
        bench.noBer(0, "3080");
        bench.noBer(0, "308000");
        bench.noBer(0, "30800001");
        bench.noBer(0, "30800100");
        bench.noBer(0, "3080000000");
        bench.noBer(0, "308000000000");
        bench.noBer(0, "308004020000");
        bench.noBer(0, "30800402000000");
        bench.noBer(1, "0480aa0000");
        bench.noBer(1, "04800000");
        bench.noBer(2, "05800000");
        bench.onlyBer(3, "a1800401aa0000", value(1));
        bench.noBer(3, "a1800000");
        bench.noBer(3, "a1800401aa");
        bench.noBer(3, "a1800401aa00");
        bench.noBer(3, "a1800401aa0001");
        bench.noBer(3, "a1800401aa0100");
        bench.noBer(3, "a1800401aa0401aa0000");
        bench.onlyBer(4, "31800000", "{}");
        bench.onlyBer(4, "318005000000", "{a NULL}");
        bench.noBer(4, "31800500");
        bench.noBer(4, "3180050000");
        bench.onlyBer(5, "30800000", "{}");
        bench.onlyBer(5, "3080040004000000", "{''H, ''H}");
        bench.noBer(5, "30800400");
        bench.noBer(5, "3080040000");
        bench.onlyBer(6, "318005000000", "{NULL}");
        bench.onlyBer(7, "a18005000000", "a:NULL");
        bench.noBer(7, "a1800000");
        bench.noBer(7, "a180050005000000");
        Kit.sentence("two bytes 0 end no VALUE whose length is told");
        bench.noBer(0, "30020000");
        bench.noBer(5, "30020000");
        bench.noBer(5, "300404000000");
    }

    /** A VALUE of [UNIVERSAL 0] may have the bytes 0 0: they end what has the length 128 alone, and are the VALUE elsewhere. */
    private static void zerosThatAreNoEnd() {
        Kit.sentence("Length: .. 128 alone ..: up to two bytes 0 where a VALUE would begin.");
        Bench bench = new Bench("A ::= [1] EXPLICIT Z Z ::= [UNIVERSAL 0] IMPLICIT NULL C ::= [1] CHOICE {a Z} D ::= SEQUENCE {a Z OPTIONAL, b NULL OPTIONAL} "
                + "E ::= SET {a Z OPTIONAL, b NULL OPTIONAL} F ::= SEQUENCE OF Z");
        bench.der(0, "NULL", "a1020000");
        bench.noBer(0, "a18000000000");
        bench.noBer(0, "a1800000");
        bench.onlyBer(0, "a1800081000000", "NULL");
        bench.der(1, "NULL", "0000");
        bench.der(2, "a:NULL", "a1020000");
        bench.noBer(2, "a18000000000");
        bench.der(3, "{a NULL, b NULL}", "3004" + "0000" + "0500");
        bench.onlyBer(3, "3080" + "0000", "{}");
        bench.noBer(3, "3080" + "0000" + "0500" + "0000");
        bench.onlyBer(3, "3080" + "008100" + "0500" + "0000", "{a NULL, b NULL}");
        bench.der(4, "{a NULL, b NULL}", "3104" + "0000" + "0500");
        bench.noBer(4, "3180" + "0500" + "0000" + "0000");
        bench.onlyBer(4, "3180" + "0500" + "008100" + "0000", "{a NULL, b NULL}");
        bench.der(5, "{NULL, NULL}", "3004" + "0000" + "0000");
        bench.onlyBer(5, "3080" + "0000", "{}");
        bench.noBer(5, "3080" + "0000" + "0000");
    }

    private static void booleans() {
        Kit.sentence("BOOLEAN: one byte, 0 is FALSE.");
        Bench bench = new Bench("A ::= BOOLEAN");
        bench.der(0, "FALSE", "010100");
        bench.der(0, "TRUE", "0101ff");
        Kit.sentence("DER: .. TRUE 255");
        for (int b : new int[] {1, 2, 127, 128, 254}) {
            bench.onlyBer(0, String.format("0101%02x", b), "TRUE");
        }
        bench.noBer(0, "0100");
        bench.noBer(0, "01020000");
        bench.noBer(0, "0102ffff");
    }

    private static void integers() {
        Kit.sentence("INTEGER, ENUMERATED: two's complement, the first nine bits not alike, at most 8 bytes.");
        Bench bench = new Bench("A ::= INTEGER");
        String[] values = {"0", "1", "127", "128", "255", "256", "32767", "32768", "8388607", "8388608", "2147483647", "2147483648", "549755813887", "549755813888",
            "140737488355327", "140737488355328", "36028797018963967", "36028797018963968", "9223372036854775807"};
        String[] contents = {"00", "01", "7f", "0080", "00ff", "0100", "7fff", "008000", "7fffff", "00800000", "7fffffff", "0080000000", "7fffffffff", "008000000000",
            "7fffffffffff", "00800000000000", "7fffffffffffff", "0080000000000000", "7fffffffffffffff"};
        for (int i = 0; i < values.length; i++) {
            bench.der(0, values[i], String.format("02%02x", contents[i].length() / 2) + contents[i]);
            int longer = contents[i].length() / 2 + 1;
            bench.noBer(0, String.format("02%02x00", longer) + contents[i]);
        }
        String[] below = {"-1", "-128", "-129", "-256", "-257", "-32768", "-32769", "-8388608", "-8388609", "-2147483648", "-2147483649", "-549755813888", "-549755813889",
            "-140737488355328", "-140737488355329", "-36028797018963968", "-36028797018963969", "-9223372036854775807"};
        String[] parts = {"ff", "80", "ff7f", "ff00", "feff", "8000", "ff7fff", "800000", "ff7fffff", "80000000", "ff7fffffff", "8000000000", "ff7fffffffff",
            "800000000000", "ff7fffffffffff", "80000000000000", "ff7fffffffffffff", "8000000000000001"};
        for (int i = 0; i < below.length; i++) {
            bench.der(0, below[i], String.format("02%02x", parts[i].length() / 2) + parts[i]);
            bench.noBer(0, String.format("02%02xff", parts[i].length() / 2 + 1) + parts[i]);
        }
        bench.noBer(0, "0200");
        bench.noBer(0, "02090100000000000000" + "00");
        bench.noBer(0, "0209" + "ff7fffffffffffffff");
        bench.noBer(0, "0209" + "008000000000000000");
        bench.noBer(0, "0209" + "7f0000000000000000");
    }

    private static void enumerated() {
        Kit.sentence("INTEGER, ENUMERATED: two's complement, the first nine bits not alike, at most 8 bytes.");
        Bench bench = new Bench("A ::= ENUMERATED {a, b(127), c(128), d(-128), e(-129), f(9223372036854775807), g(-9223372036854775807)}");
        bench.der(0, "a", "0a0100");
        bench.der(0, "b", "0a017f");
        bench.der(0, "c", "0a020080");
        bench.der(0, "d", "0a0180");
        bench.der(0, "e", "0a02ff7f");
        bench.der(0, "f", "0a087fffffffffffffff");
        bench.der(0, "g", "0a088000000000000001");
        for (String wrong : new String[] {"0a00", "0a020000", "0a02007f", "0a02ff80", "0a0101", "0a09007fffffffffffffff", "0a088000000000000000", "0a09ff8000000000000001"}) {
            bench.noBer(0, wrong);
        }
    }

    private static void nulls() {
        Kit.sentence("BER: a VALUE is identifier, length, contents (NULL has none)");
        Bench bench = new Bench("A ::= NULL");
        bench.der(0, "NULL", "0500");
        bench.onlyBer(0, "058100", "NULL");
        bench.noBer(0, "050100");
        bench.noBer(0, "05");
    }

    private static void bitStrings() {
        Kit.sentence("BIT STRING: how many bits of the last byte are none (0 .. 7), the bytes");
        Bench bench = new Bench("A ::= BIT STRING");
        String[] printed = {"'AA'H", "'1010101'B", "'101010'B", "'10101'B", "'1010'B", "'101'B", "'10'B", "'1'B"};
        String[] kept = {"aa", "aa", "a8", "a8", "a0", "a0", "80", "80"};
        for (int i = 0; i < 8; i++) {
            bench.der(0, printed[i], "03020" + i + kept[i]);
            bench.noBer(0, "03010" + (i + 1));
        }
        bench.noBer(0, "030208aa");
        bench.noBer(0, "030209aa");
        bench.noBer(0, "030280aa");
        bench.noBer(0, "0302ffaa");
        bench.noBer(0, "0300");
        bench.der(0, "''H", "030100");
        Kit.sentence("DER: .. bits that are none 0");
        bench.onlyBer(0, "030207ff", "'1'B");
        bench.onlyBer(0, "03020781", "'1'B");
        bench.onlyBer(0, "030207c0", "'1'B");
        bench.onlyBer(0, "03020101", "'0000000'B");
        bench.der(0, "'111111111111111'B", "030301fffe");
        bench.onlyBer(0, "030301ffff", "'111111111111111'B");
    }

    private static void octetsInPieces() {
        Kit.sentence("OCTET STRING, strings: the bytes; these may be constructed of such with UNIVERSAL TAG 3 (BIT STRING) or 4 (all others), however deep");
        Bench bench = new Bench("A ::= OCTET STRING B ::= [0] IMPLICIT OCTET STRING C ::= OCTET STRING (SIZE (2)) D ::= [0] EXPLICIT OCTET STRING");
        bench.onlyBer(0, "2400", "''H");
        bench.onlyBer(0, "24800000", "''H");
        bench.onlyBer(0, "2402" + "0400", "''H");
        bench.onlyBer(0, "2403" + "0401aa", "'AA'H");
        bench.onlyBer(0, "2406" + "0401aa" + "0401bb", "'AABB'H");
        bench.onlyBer(0, "2480" + "0401aa" + "0400" + "0401bb" + "0000", "'AABB'H");
        bench.onlyBer(0, "240a" + "2403" + "0401aa" + "2403" + "0401bb", "'AABB'H");
        bench.onlyBer(0, "2480" + "2480" + "2403" + "0401aa" + "0000" + "0401bb" + "0000", "'AABB'H");
        bench.noBer(0, "2403" + "0301aa");
        bench.noBer(0, "2404" + "0302" + "00aa");
        bench.noBer(0, "2403" + "8401aa");
        bench.noBer(0, "2403" + "0c01aa");
        bench.noBer(0, "2403" + "4401aa");
        bench.noBer(0, "2404" + "0402aa");
        bench.noBer(0, "2402" + "0401aa");
        bench.noBer(0, "2480" + "0401aa");
        bench.noBer(0, "2480" + "0401aa" + "00");
        bench.noBer(0, "2405" + "2480" + "0401aa");
        bench.onlyBer(1, "a003" + "0401aa", "'AA'H");
        bench.noBer(1, "a003" + "8001aa");
        bench.onlyBer(2, "2406" + "0401aa" + "0401bb", "'AABB'H");
        bench.noBer(2, "2403" + "0401aa");
        bench.noBer(2, "2409" + "0401aa" + "0401bb" + "0401cc");
        bench.onlyBer(3, "a005" + "2403" + "0401aa", "'AA'H");
    }

    private static void bitsInPieces() {
        Kit.sentence("constructed of such with UNIVERSAL TAG 3 (BIT STRING) .., however deep, all BIT STRINGS but the last one without such bits.");
        Bench bench = new Bench("A ::= BIT STRING B ::= [0] IMPLICIT BIT STRING (SIZE (12))");
        bench.onlyBer(0, "2300", "''H");
        bench.onlyBer(0, "2303" + "030100", "''H");
        bench.onlyBer(0, "2304" + "030204a0", "'1010'B");
        bench.onlyBer(0, "2308" + "030200a5" + "030204a0", "'101001011010'B");
        bench.onlyBer(0, "2308" + "030200a5" + "030200a0", "'A5A0'H");
        bench.onlyBer(0, "230c" + "2304" + "030200a5" + "2304" + "030204af", "'101001011010'B");
        bench.onlyBer(0, "2380" + "030200a5" + "2380" + "030204a0" + "0000" + "0000", "'101001011010'B");
        bench.onlyBer(0, "2307" + "030100" + "030204a0", "'1010'B");
        bench.noBer(0, "2308" + "030204a0" + "030200a5");
        bench.noBer(0, "2307" + "030204a0" + "030100");
        bench.noBer(0, "230a" + "2304" + "030204a0" + "030200a5");
        bench.noBer(0, "2303" + "030101");
        bench.noBer(0, "2302" + "0300");
        bench.noBer(0, "2304" + "030208a0");
        bench.noBer(0, "2303" + "0401aa");
        bench.noBer(0, "2304" + "830204a0");
        bench.onlyBer(1, "a008" + "030200a5" + "030204a0", "'101001011010'B");
        bench.noBer(1, "a004" + "030200a5");
    }

    private static void stringsInPieces() {
        Kit.sentence("these may be constructed of such with UNIVERSAL TAG .. 4 (all others)");
        String[] bases = {"UTF8String", "NumericString", "PrintableString", "IA5String", "VisibleString"};
        int[] tags = {12, 18, 19, 22, 26};
        for (int i = 0; i < bases.length; i++) {
            Bench bench = new Bench("A ::= " + bases[i] + " B ::= SEQUENCE OF " + bases[i]);
            String id = String.format("%02x", 32 + tags[i]);
            String own = String.format("%02x", tags[i]);
            bench.der(0, "\"12\"", own + "023132");
            bench.onlyBer(0, id + "06" + "040131" + "040132", "\"12\"");
            bench.onlyBer(0, id + "08" + "2406" + "040131" + "040132", "\"12\"");
            bench.onlyBer(0, id + "00", "\"\"");
            bench.noBer(0, id + "03" + own + "0131");
            bench.noBer(0, id + "03" + "030131");
            bench.noBer(0, id + "06" + "040131" + "040100");
            bench.noBer(0, id + "06" + "040131" + "0401ff");
            bench.onlyBer(1, "3008" + id + "03040131" + own + "0132", "{\"1\", \"2\"}");
        }
        Kit.sentence("nothing else may be constructed");
        Bench bench = new Bench("A ::= INTEGER B ::= BOOLEAN C ::= OBJECT IDENTIFIER D ::= ENUMERATED {a} E ::= NULL");
        bench.noBer(0, "2203" + "020105");
        bench.noBer(1, "2103" + "0101ff");
        bench.noBer(2, "2603" + "06012a");
        bench.noBer(3, "2a03" + "0a0100");
        bench.noBer(4, "2500");
    }

    private static void objects() {
        Kit.sentence("OBJECT IDENTIFIER: 40 times the first and the second, and the others in sevens as above.");
        Bench bench = new Bench("A ::= OBJECT IDENTIFIER");
        bench.der(0, "{0 0}", "060100");
        bench.der(0, "{0 39}", "060127");
        bench.der(0, "{1 0}", "060128");
        bench.der(0, "{1 39}", "06014f");
        bench.der(0, "{2 0}", "060150");
        bench.der(0, "{2 47 127}", "06027f7f");
        bench.der(0, "{2 48 128}", "060481008100");
        bench.der(0, "{2 9223372036854775727}", "0609ffffffffffffffff7f");
        bench.der(0, "{1 2 9223372036854775807}", "060a2affffffffffffffff7f");
        bench.der(0, "{1 2 16384 5}", "06052a81800005");
        bench.der(0, "{2 16304 2097152}", "0607818000" + "81808000");
        for (String wrong : new String[] {"0600", "060180", "06028000", "06028001", "060181", "06022a80", "06032a8000", "06032a8001", "06032a8181",
            "06032a8180", "060a81808080808080808000", "060b2a81808080808080808000", "060b2affffffffffffffffff7f", "060c2a" + "81" + "80".repeat(8) + "00" + "05"}) {
            bench.noBer(0, wrong);
        }
    }

    private static void explicit() {
        Kit.sentence("EXPLICIT: constructed, the VALUE in it.");
        Bench bench = new Bench("A ::= [1] EXPLICIT NULL B ::= [2] EXPLICIT A C ::= [3] CHOICE {a NULL}");
        bench.der(0, "NULL", "a1020500");
        bench.noBer(0, "81020500");
        bench.noBer(0, "a100");
        bench.noBer(0, "a10405000500");
        bench.noBer(0, "a1030500" + "00");
        bench.noBer(0, "a1010500");
        bench.noBer(0, "a1020100");
        bench.noBer(0, "0500");
        bench.noBer(0, "a2020500");
        bench.der(1, "NULL", "a204a1020500");
        bench.noBer(1, "a204" + "81020500");
        bench.noBer(1, "a2020500");
        bench.noBer(1, "a205a1020500" + "00");
        bench.noBer(1, "a1020500");
        Bench rows = new Bench("A ::= SEQUENCE {a [1] EXPLICIT NULL, b NULL} B ::= SEQUENCE {a [1] CHOICE {x NULL}, b NULL} C ::= SEQUENCE OF NULL D ::= SEQUENCE OF BOOLEAN");
        rows.noBer(0, "3006" + "a104" + "0500" + "0500");
        rows.noBer(1, "3006" + "a104" + "0500" + "0500");
        rows.decode(0, BER, "3080" + "a180" + "0500" + "0000" + "0500" + "0000", "{a NULL, b NULL}");
        rows.noBer(0, "3080" + "a180" + "0500" + "0500" + "0000" + "0000");
        Kit.sentence("BER: a VALUE is identifier, length, contents: what is more in them is no VALUE behind");
        rows.noBer(2, "3004" + "0502" + "0500");
        rows.noBer(3, "3006" + "0104" + "ff" + "0101ff");
        Kit.sentence("EXPLICIT: constructed, the VALUE in it.");
        bench.der(2, "a:NULL", "a3020500");
        bench.noBer(2, "83020500");
        bench.noBer(2, "a300");
        bench.noBer(2, "a30405000500");
    }

    private static void sequences() {
        Kit.sentence("SEQUENCE: its PARTS there, in order");
        Bench bench = new Bench("A ::= SEQUENCE {a NULL, b BOOLEAN OPTIONAL, c INTEGER, d [0] NULL OPTIONAL}");
        bench.der(0, "{a NULL, c 5}", "30050500020105");
        bench.der(0, "{a NULL, b TRUE, c 5, d NULL}", "300c05000101ff020105a0020500");
        for (String wrong : new String[] {"", "0500", "020105", "05000101ff", "0201050500", "0500020105" + "0101ff", "05000201050201" + "05", "0500a0020500" + "020105",
            "05000101ff0101ff020105", "0500020105a0020500a0020500", "0500020105" + "0500", "0500020105" + "00"}) {
            bench.noBer(0, String.format("30%02x", wrong.length() / 2) + wrong);
        }
    }

    private static void passedOverInSequences() {
        Kit.sentence("SEQUENCE: .. what is behind them is passed over, if it has a ...");
        Bench bench = new Bench("A ::= SEQUENCE {a NULL, ...} B ::= SEQUENCE {a NULL OPTIONAL, ..., b BOOLEAN} C ::= SEQUENCE {a NULL}");
        for (String tail : new String[] {"", "0101ff", "020105" + "020105", "0500", "a000", "1f1f00", "9f8fffffffff7f00", "df8180808080808000" + "00", "30020101", "0000"}) {
            bench.decode(0, DER, String.format("30%02x0500", 2 + tail.length() / 2) + tail, "{a NULL}");
            bench.decode(0, BER, String.format("30%02x0500", 2 + tail.length() / 2) + tail, "{a NULL}");
            if (!tail.isEmpty()) {
                bench.noBer(2, String.format("30%02x0500", 2 + tail.length() / 2) + tail);
            }
        }
        for (String tail : new String[] {"01", "0101", "0102ff", "1f", "1f1e00", "1f801f00", "0180" + "0000", "048401000000"}) {
            bench.noBer(0, String.format("30%02x0500", 2 + tail.length() / 2) + tail);
        }
        Kit.sentence("what is passed over is DER, where DER is asked for");
        bench.onlyBer(0, "3006" + "0500" + "018101ff", "{a NULL}");
        bench.onlyBer(0, "3006" + "0500" + "a0800000", "{a NULL}");
        bench.onlyBer(0, "3080" + "0500" + "a080" + "0401aa" + "a0800000" + "0000" + "0000", "{a NULL}");
        bench.noBer(0, "3080" + "0500" + "a080" + "0401aa" + "a0800000" + "0000");
        bench.noBer(0, "3080" + "0500" + "a080" + "0400");
        Kit.sentence("what is behind the PARTS there");
        bench.decode(1, DER, "3005" + "0500" + "0101ff", "{a NULL, b TRUE}");
        bench.decode(1, DER, "3003" + "0101ff", "{b TRUE}");
        bench.decode(1, DER, "3003" + "020105", "{}");
        bench.decode(1, DER, "3005" + "0101ff" + "0500", "{b TRUE}");
        bench.decode(1, DER, "3006" + "020105" + "0101ff", "{}");
        bench.decode(1, DER, "3008" + "0500" + "020105" + "0101ff", "{a NULL}");
        bench.decode(1, DER, "3006" + "0101ff" + "0101ff", "{b TRUE}");
    }

    private static void sets() {
        Kit.sentence("SET: in any order, each once");
        Bench bench = new Bench("A ::= SET {a NULL, b BOOLEAN OPTIONAL, c CHOICE {x INTEGER, y [0] NULL}}");
        bench.der(0, "{a NULL, c x:5}", "3105" + "020105" + "0500");
        bench.onlyBer(0, "3105" + "0500" + "020105", "{a NULL, c x:5}");
        bench.der(0, "{a NULL, b TRUE, c y:NULL}", "3109" + "0101ff" + "0500" + "a0020500");
        for (String order : new String[] {"0101ffa00205000500", "05000101ffa0020500", "0500a00205000101ff", "a00205000101ff0500", "a002050005000101ff"}) {
            bench.onlyBer(0, "3109" + order, "{a NULL, b TRUE, c y:NULL}");
        }
        for (String wrong : new String[] {"", "0500", "020105", "0101ff", "0101ff0500", "0500" + "0500" + "020105", "0101ff" + "0101ff" + "0201050500",
            "020105" + "0500" + "a0020500", "020105" + "020106" + "0500", "020105" + "0500" + "0400"}) {
            bench.noBer(0, String.format("31%02x", wrong.length() / 2) + wrong);
        }
    }

    private static void passedOverInSets() {
        Kit.sentence("SET: .. what is none of them is passed over likewise");
        Bench bench = new Bench("A ::= SET {a NULL, ..., b BOOLEAN}");
        bench.decode(0, DER, "3105" + "020105" + "0500", "{a NULL}");
        bench.decode(0, BER, "3105" + "020105" + "0500", "{a NULL}");
        bench.decode(0, BER, "3105" + "0500" + "020105", "{a NULL}");
        bench.decode(0, BER, "310b" + "020105" + "020105" + "0500" + "0101ff", "{a NULL, b TRUE}");
        bench.decode(0, BER, "3180" + "a0800000" + "0500" + "0000", "{a NULL}");
        bench.noBer(0, "3103" + "020105");
        bench.noBer(0, "3104" + "05000500");
        bench.noBer(0, "3104" + "0500" + "0201");
        Bench closed = new Bench("A ::= SET {a NULL}");
        closed.noBer(0, "3105" + "020105" + "0500");
        closed.noBer(0, "3105" + "0500" + "020105");
    }

    private static void lists() {
        Kit.sentence("OF: each.");
        Bench bench = new Bench("A ::= SEQUENCE OF NULL B ::= SET OF INTEGER C ::= SEQUENCE OF CHOICE {a NULL, b BOOLEAN}");
        bench.der(0, "{}", "3000");
        bench.der(0, "{NULL, NULL, NULL}", "3006050005000500");
        bench.noBer(0, "30050500" + "020105");
        bench.noBer(0, "3003" + "0500" + "05");
        bench.der(1, "{}", "3100");
        bench.der(2, "{b:TRUE, a:NULL}", "3005" + "0101ff" + "0500");
        bench.noBer(2, "3003" + "020105");
    }

    private static void defaults() {
        Kit.sentence("BER: .. A DEFAULT may be there. DER: .. a DEFAULT not there");
        Bench bench = new Bench("A ::= SEQUENCE {a INTEGER DEFAULT 5, b BOOLEAN DEFAULT TRUE} B ::= SET {a INTEGER DEFAULT 5, ..., b BOOLEAN DEFAULT FALSE} "
                + "C ::= SEQUENCE {a SET OF INTEGER DEFAULT {1, 2}, b OCTET STRING DEFAULT '0102'H, c BIT STRING DEFAULT '1'B}");
        bench.onlyBer(0, "3003" + "020105", "{}");
        bench.onlyBer(0, "3003" + "0101ff", "{}");
        bench.onlyBer(0, "3003" + "010101", "{}");
        bench.onlyBer(0, "3006" + "020105" + "010100", "{b FALSE}");
        bench.der(0, "{a 6}", "3003" + "020106");
        bench.onlyBer(1, "3103" + "020105", "{}");
        bench.onlyBer(1, "3103" + "010100", "{}");
        bench.der(1, "{b TRUE}", "3103" + "0101ff");
        bench.onlyBer(2, "3008" + "3106" + "020102" + "020101", "{}");
        bench.onlyBer(2, "300a" + "2408" + "04020102" + "2400" + "0400", "{}");
        bench.onlyBer(2, "3004" + "030207ff", "{}");
        bench.onlyBer(2, "3004" + "03020780", "{}");
        bench.der(2, "{c '10'B}", "3004" + "03020680");
    }

    private static void derLengths() {
        Kit.sentence("DER: BER, where lengths are as short as can be (no 128 alone), nothing constructed that need not be");
        Bench bench = new Bench("A ::= SEQUENCE OF OCTET STRING B ::= [1] OCTET STRING");
        bench.der(0, "{" + value(124) + "}", "307e" + "047c" + bytes(124));
        bench.der(0, "{" + value(125) + "}", "307f" + "047d" + bytes(125));
        bench.der(0, "{" + value(126) + "}", "308180" + "047e" + bytes(126));
        bench.der(0, "{" + value(252) + "}", "3081ff" + "0481fc" + bytes(252));
        bench.der(0, "{" + value(253) + "}", "30820100" + "0481fd" + bytes(253));
        bench.der(1, value(125), "a17f" + "047d" + bytes(125));
        bench.der(1, value(126), "a18180" + "047e" + bytes(126));
        bench.onlyBer(0, "308102" + "0400", "{''H}");
        bench.onlyBer(0, "3003" + "048100", "{''H}");
        bench.onlyBer(0, "3002" + "2400", "{''H}");
        bench.onlyBer(0, "30800000", "{}");
        bench.onlyBer(1, "a1810204" + "00", "''H");
        bench.onlyBer(1, "a18004000000", "''H");
        bench.onlyBer(0, "30820080" + "047e" + bytes(126), "{" + value(126) + "}");
    }

    private static void derSets() {
        Kit.sentence("DER: .. PARTS of a SET as class and number of their first TAG rise");
        Bench bench = new Bench("A ::= SET {a [PRIVATE 0] IMPLICIT NULL, b [1] IMPLICIT NULL, c [0] IMPLICIT NULL, d [APPLICATION 9] IMPLICIT NULL, e NULL} "
                + "B ::= SET {a [31] IMPLICIT NULL, b [30] IMPLICIT SEQUENCE {}, c [2] IMPLICIT NULL} "
                + "C ::= SET {a CHOICE {x [5] IMPLICIT NULL, y [1] IMPLICIT NULL}, b [3] IMPLICIT NULL}");
        bench.der(0, "{a NULL, b NULL, c NULL, d NULL, e NULL}", "310a" + "0500" + "4900" + "8000" + "8100" + "c000");
        bench.onlyBer(0, "310a" + "4900" + "0500" + "8000" + "8100" + "c000", "{a NULL, b NULL, c NULL, d NULL, e NULL}");
        bench.onlyBer(0, "310a" + "0500" + "4900" + "8100" + "8000" + "c000", "{a NULL, b NULL, c NULL, d NULL, e NULL}");
        bench.onlyBer(0, "310a" + "0500" + "4900" + "8000" + "c000" + "8100", "{a NULL, b NULL, c NULL, d NULL, e NULL}");
        bench.der(1, "{a NULL, b {}, c NULL}", "3107" + "8200" + "be00" + "9f1f00");
        bench.onlyBer(1, "3107" + "8200" + "9f1f00" + "be00", "{a NULL, b {}, c NULL}");
        Bench zero = new Bench("A ::= SET {a BOOLEAN, b [UNIVERSAL 0] IMPLICIT SEQUENCE {x [5] NULL}}");
        zero.der(0, "{a TRUE, b {x NULL}}", "3109" + "2004a5020500" + "0101ff");
        zero.onlyBer(0, "3109" + "0101ff" + "2004a5020500", "{a TRUE, b {x NULL}}");
        bench.der(2, "{a x:NULL, b NULL}", "3104" + "8300" + "8500");
        bench.der(2, "{a y:NULL, b NULL}", "3104" + "8100" + "8300");
        bench.onlyBer(2, "3104" + "8500" + "8300", "{a x:NULL, b NULL}");
        bench.onlyBer(2, "3104" + "8300" + "8100", "{a y:NULL, b NULL}");
    }

    private static void derSetsOf() {
        Kit.sentence("DER: .. those of a SET OF as their bytes rise (shorter ones with 0 behind).");
        Bench bench = new Bench("A ::= SET OF OCTET STRING B ::= SET OF CHOICE {a NULL, b [0] SEQUENCE OF B, c INTEGER}");
        bench.der(0, "{''H, '00'H, 'FF'H, '0000'H, 'FFFF'H}", "3110" + "0400" + "040100" + "0401ff" + "04020000" + "0402ffff");
        bench.encode(0, DER, "{'FFFF'H, '0000'H, 'FF'H, '00'H, ''H}", "3110" + "0400" + "040100" + "0401ff" + "04020000" + "0402ffff");
        bench.der(0, "{'00'H, '00'H}", "3106" + "040100" + "040100");
        bench.onlyBer(0, "3106" + "040101" + "040100", "{'01'H, '00'H}");
        bench.onlyBer(0, "3106" + "0401ff" + "04017f", "{'FF'H, '7F'H}");
        bench.onlyBer(0, "3105" + "040100" + "0400", "{'00'H, ''H}");
        bench.onlyBer(0, "3107" + "04020000" + "0401ff", "{'0000'H, 'FF'H}");
        Kit.sentence("DER: .. those of a SET OF as their bytes rise: each behind the one before it");
        bench.onlyBer(0, "3109" + "040101" + "040103" + "040102", "{'01'H, '03'H, '02'H}");
        bench.der(0, "{'01'H, '02'H, '03'H}", "3109" + "040101" + "040102" + "040103");
        manyOfASet();
        Kit.sentence("DER: .. those of a SET OF as their bytes rise (shorter ones with 0 behind).");
        bench.der(1, "{c:5, a:NULL, b:{}}", "3109" + "020105" + "0500" + "a0023000");
        bench.onlyBer(1, "3109" + "0500" + "020105" + "a0023000", "{a:NULL, c:5, b:{}}");
        Kit.sentence("SEQUENCE OF and PER leave the order as it is");
        Bench sequence = new Bench("A ::= SEQUENCE OF INTEGER B ::= SET OF INTEGER");
        sequence.der(0, "{2, 1}", "3006" + "020102" + "020101");
        sequence.per(1, "{2, 1}", "02" + "0102" + "0101");
    }

    /** More than fit in any row that is made ahead, the greatest first. */
    private static void manyOfASet() {
        Bench bench = new Bench("A ::= SET OF INTEGER (0..999) B ::= SET OF BIT STRING C ::= SET OF [UNIVERSAL 0] IMPLICIT OCTET STRING D ::= SET OF SEQUENCE OF INTEGER "
                + "E ::= SET OF CHOICE {x [UNIVERSAL 0] IMPLICIT OCTET STRING, y BOOLEAN}");
        for (int n : new int[] {2, 3, 15, 16, 17, 31, 32, 33, 34, 65, 100}) {
            StringBuilder value = new StringBuilder("{");
            StringBuilder rising = new StringBuilder("{");
            StringBuilder der = new StringBuilder();
            for (int i = 0; i < n; i++) {
                value.append(i == 0 ? "" : ", ").append(n - 1 - i);
                rising.append(i == 0 ? "" : ", ").append(i);
                der.append(String.format("0201%02x", i));
            }
            int length = 3 * n;
            String head = "31" + (length < 128 ? "" : length < 256 ? "81" : "82") + String.format(length < 256 ? "%02x" : "%04x", length);
            bench.encode(0, DER, value + "}", head + der);
            bench.decode(0, DER, head + der, rising + "}");
            bench.decode(0, BER, head + der, rising + "}");
        }
        bench.encode(1, DER, "{'1011'B, '1010'B, '0111'B, '1111111111'B, '1111111101'B}",
                "3116" + "03020470" + "030204a0" + "030204b0" + "030306ff40" + "030306ffc0");
        bench.encode(2, DER, "{'05'H, '01'H, '0000'H, ''H}", "310c" + "0000" + "000101" + "000105" + "00020000");
        bench.encode(3, DER, "{{5}, {1, 1}, {}, {4}, {1, 0}, {300}}",
                "3122" + "3000" + "3003020104" + "3003020105" + "30040202012c" + "3006020101020100" + "3006020101020101");
        bench.encode(4, DER, "{y : TRUE, x : '05'H, x : '01'H, y : FALSE, x : '0000'H}", "3110" + "000101" + "000105" + "00020000" + "010100" + "0101ff");
    }

    private static void moreBehind() {
        Kit.sentence("Promise 6: The TAPE are bytes of a VALUE of TYPE t; they are not, or more are behind .. : UnsupportedOperationException.");
        Bench bench = new Bench("A ::= NULL B ::= SEQUENCE {...} C ::= CHOICE {a NULL}");
        for (int t = 0; t < 3; t++) {
            String whole = t == 1 ? "3000" : "0500";
            bench.noBer(t, "");
            bench.noBer(t, whole.substring(0, 2));
            bench.noBer(t, whole + "00");
            bench.noBer(t, whole + "0000");
            bench.noBer(t, whole + whole);
            bench.noBer(t, "00" + whole);
            bench.noBer(t, "0101ff");
        }
        bench.noBer(1, "30800000" + "0000");
    }

    private static String wrap(int n, String id, String inner) {
        String der = inner;
        for (int i = 0; i < n; i++) {
            int length = der.length() / 2;
            der = id + (length < 128 ? "" : "81") + String.format("%02x", length) + der;
        }
        return der;
    }

    private static void sixtyIdentifiers() {
        Kit.sentence("Promise 6: (more than 60 one within another, too: identifiers and CHOICES in BER ..)");
        Bench bench = new Bench("A ::= SEQUENCE OF A B ::= SEQUENCE {a B OPTIONAL, b NULL OPTIONAL} C ::= SET {a C OPTIONAL, b NULL OPTIONAL}");
        bench.der(0, "{".repeat(60) + "}".repeat(60), wrap(60, "30", ""));
        bench.noBer(0, wrap(61, "30", ""));
        bench.noBer(0, wrap(62, "30", ""));
        bench.decode(0, BER, "3080".repeat(60) + "0000".repeat(60), "{".repeat(60) + "}".repeat(60));
        bench.noBer(0, "3080".repeat(61) + "0000".repeat(61));
        bench.der(1, "{a ".repeat(58) + "{b NULL}" + "}".repeat(58), wrap(59, "30", "0500"));
        bench.noBer(1, wrap(60, "30", "0500"));
        bench.der(1, "{a ".repeat(59) + "{}" + "}".repeat(59), wrap(60, "30", ""));
        bench.der(2, "{a ".repeat(58) + "{b NULL}" + "}".repeat(58), wrap(59, "31", "0500"));
        bench.noBer(2, wrap(60, "31", "0500"));
    }

    private static void sixtyChoices() {
        Kit.sentence("Promise 6: (more than 60 one within another, too: identifiers and CHOICES in BER ..)");
        Bench bench = new Bench("A ::= CHOICE {a [0] A, b NULL} B ::= SEQUENCE OF CHOICE {b B, n NULL} " + choices(58, "NULL"));
        bench.der(0, "a:".repeat(29) + "b:NULL", wrap(29, "a0", "0500"));
        bench.noBer(0, wrap(30, "a0", "0500"));
        bench.der(1, "{b:".repeat(29) + "{}" + "}".repeat(29), wrap(30, "30", ""));
        bench.der(1, "{b:".repeat(28) + "{n:NULL}" + "}".repeat(28), wrap(29, "30", "0500"));
        bench.noBer(1, wrap(30, "30", "0500"));
        bench.noBer(1, wrap(31, "30", ""));
        Bench just = new Bench(choices(59, "NULL"));
        just.der(0, "c:".repeat(59) + "NULL", "0500");
        Bench over = new Bench(choices(60, "NULL"));
        over.noBer(0, "0500");
        Bench tagged = new Bench(choices(58, "[0] NULL"));
        tagged.der(0, "c:".repeat(58) + "NULL", "a0020500");
        Bench longer = new Bench(choices(59, "[0] NULL"));
        longer.noBer(0, "a0020500");
        Bench headed = new Bench("T ::= [0] C0 " + choices(58, "NULL"));
        headed.der(0, "c:".repeat(58) + "NULL", "a0020500");
        Bench above = new Bench("T ::= [0] C0 " + choices(59, "NULL"));
        above.noBer(0, "a0020500");
    }

    /** CHOICES one in another without a tag: they cost no byte. */
    private static String choices(int n, String last) {
        StringBuilder text = new StringBuilder();
        for (int i = 0; i < n; i++) {
            text.append("C").append(i).append("::=CHOICE{c C").append(i + 1).append("} ");
        }
        return text + "C" + n + "::=" + last;
    }

    private static void sixtyExplicit() {
        Kit.sentence("Promise 6: (more than 60 one within another, too: identifiers ..)");
        for (int n = 59; n <= 60; n++) {
            StringBuilder text = new StringBuilder();
            for (int i = 0; i < n; i++) {
                text.append("C").append(i).append("::=[0]C").append(i + 1).append(' ');
            }
            Bench bench = new Bench(text + "C" + n + "::=NULL");
            bench.encode(0, DER, "NULL", wrap(n, "a0", "0500"));
            bench.decode(0, DER, wrap(n, "a0", "0500"), n < 60 ? "NULL" : NONE);
            bench.decode(0, BER, "a080".repeat(n) + "0500" + "0000".repeat(n), n < 60 ? "NULL" : NONE);
        }
    }

    private static void sixtyPassedOver() {
        Kit.sentence("Promise 6: (more than 60 one within another, too: identifiers .. , of what is passed over, too)");
        Bench bench = new Bench("A ::= SEQUENCE {a A OPTIONAL, ...}");
        bench.decode(0, BER, wrap(59, "30", "0500"), "{a ".repeat(58) + "{}" + "}".repeat(58));
        bench.decode(0, BER, wrap(60, "30", "0500"), NONE);
        bench.decode(0, BER, "3080" + "a080".repeat(59) + "0000".repeat(60), "{}");
        bench.decode(0, BER, "3080" + "a080".repeat(60) + "0000".repeat(61), NONE);
        bench.decode(0, BER, "3080" + "a080".repeat(58) + "0500" + "0000".repeat(59), "{}");
        bench.decode(0, BER, "3080" + "a080".repeat(59) + "0500" + "0000".repeat(60), NONE);
    }

    private static void sixtyPieces() {
        Kit.sentence("Promise 6: (more than 60 one within another, too: identifiers .., however deep a string is constructed)");
        Bench bench = new Bench("A ::= OCTET STRING B ::= BIT STRING");
        bench.decode(0, BER, wrap(60, "24", ""), "''H");
        bench.decode(0, BER, wrap(61, "24", ""), NONE);
        bench.decode(0, BER, wrap(59, "24", "0401aa"), "'AA'H");
        bench.decode(0, BER, wrap(60, "24", "0401aa"), NONE);
        bench.decode(1, BER, wrap(59, "23", "030204a0"), "'1010'B");
        bench.decode(1, BER, wrap(60, "23", "030204a0"), NONE);
        bench.decode(0, BER, "2480".repeat(60) + "0000".repeat(60), "''H");
        bench.decode(0, BER, "2480".repeat(61) + "0000".repeat(61), NONE);
    }

    /** L is a list of S; an S whose a is there is its DEFAULT, is PRINTED as {} and has 52 VALUES in 4 bytes. */
    private static Bench many(String more) {
        StringBuilder text = new StringBuilder();
        for (int i = 0; i < 49; i++) {
            text.append("C").append(i).append("::=CHOICE{c C").append(i + 1).append("} ");
        }
        return new Bench("R ::= " + more + " L ::= SEQUENCE OF S S ::= SEQUENCE {a C0 DEFAULT " + "c:".repeat(50) + "NULL} " + text + "C49::=CHOICE{c NULL}");
    }

    /** As bytes of L, with so many VALUES in it, itself counted. */
    private static String listOf(int values) {
        int full = (values - 1) / 52;
        return contents("30", "30020500".repeat(full) + "3000".repeat(values - 1 - 52 * full));
    }

    private static String printedListOf(int values) {
        int full = (values - 1) / 52;
        int all = full + values - 1 - 52 * full;
        return "{" + "{}, ".repeat(all - 1) + "{}}";
    }

    private static String contents(String id, String inner) {
        return id + String.format("82%04x", inner.length() / 2) + inner;
    }

    private static void lastOf65536() {
        Kit.sentence("Promise 6: .. IndexOutOfBoundsException, and so as soon as the 65537th VALUE is begun (those in others count, CHOICES too ..)");
        Bench bench = many("SEQUENCE {l L, n NULL OPTIONAL}");
        bench.decode(1, BER, listOf(65535), printedListOf(65535));
        bench.decode(1, BER, listOf(65536), printedListOf(65536));
        bench.decode(1, BER, listOf(65537), LONG);
        bench.decode(0, BER, contents("30", listOf(65535)), "{l " + printedListOf(65535) + "}");
        bench.decode(0, BER, contents("30", listOf(65536)), LONG);
        bench.decode(0, BER, contents("30", listOf(65534) + "0500"), "{l " + printedListOf(65534) + ", n NULL}");
        bench.decode(0, BER, contents("30", listOf(65535) + "0500"), LONG);
        Kit.sentence("as soon as the 65537th VALUE is begun: what is behind it is not looked at");
        bench.decode(1, BER, listOf(65537) + "00", LONG);
        bench.decode(1, BER, listOf(65536) + "00", NONE);
    }

    private static void begunAheadOfItsBytes() {
        Kit.sentence("Promise 6: one is begun ahead of its bytes");
        Bench bench = many("SEQUENCE {l L, n SEQUENCE OF NULL}");
        String full = listOf(65533);
        bench.decode(0, BER, contents("30", full + "30020500"), "{l " + printedListOf(65533) + ", n {NULL}}");
        bench.decode(0, BER, contents("30", full + "300405000500"), LONG);
        bench.decode(0, BER, contents("30", full + "300405000101"), LONG);
        bench.decode(0, BER, contents("30", full + "300305009f"), LONG);
        bench.decode(0, BER, contents("30", full + "30020100"), NONE);
        bench.decode(0, BER, contents("30", full + "308005000000"), "{l " + printedListOf(65533) + ", n {NULL}}");
    }

    private static void begunBehindItsIdentifier() {
        Kit.sentence("Promise 6: but where its identifier says which PART or ALTERNATIVE it is, behind that");
        Bench bench = many("SEQUENCE {l L, n NULL OPTIONAL, b BOOLEAN OPTIONAL, ...}");
        String full = listOf(65535);
        bench.decode(0, BER, contents("30", full), "{l " + printedListOf(65535) + "}");
        bench.decode(0, BER, contents("30", full + "020105"), "{l " + printedListOf(65535) + "}");
        bench.decode(0, BER, contents("30", full + "05"), LONG);
        bench.decode(0, BER, contents("30", full + "0505"), LONG);
        bench.decode(0, BER, contents("30", full + "01"), LONG);
        bench.decode(0, BER, contents("30", full + "02"), NONE);
        bench.decode(0, BER, contents("30", full + "9f"), NONE);
        bench.decode(0, BER, contents("30", full + "25"), LONG);
        Bench far = many("SEQUENCE {l L, n [129] IMPLICIT NULL OPTIONAL}");
        far.decode(0, BER, contents("30", full + "9f8101"), LONG);
        far.decode(0, BER, contents("30", full + "9f81"), NONE);
        Bench chosen = many("SEQUENCE {l L, c [0] CHOICE {n NULL, b BOOLEAN}}");
        String two = listOf(65533);
        chosen.decode(0, BER, contents("30", two + "a0020500"), "{l " + printedListOf(65533) + ", c n:NULL}");
        String one = listOf(65534);
        chosen.decode(0, BER, contents("30", one + "a0020500"), LONG);
        chosen.decode(0, BER, contents("30", one + "a0020505"), LONG);
        chosen.decode(0, BER, contents("30", one + "a0010500"), LONG);
        chosen.decode(0, BER, contents("30", one + "a003020105"), NONE);
        chosen.decode(0, BER, contents("30", one + "a0019f"), NONE);
        chosen.decode(0, BER, contents("30", one + "a000"), NONE);
        chosen.decode(0, BER, contents("30", listOf(65535) + "a003020105"), LONG);
        chosen.decode(0, BER, contents("30", listOf(65535) + "a1020500"), NONE);
    }

    private static void begunThoughItWasThere() {
        Kit.sentence("Promise 6: a PART of a SET that was there is begun all the same");
        Bench bench = many("SET {l [0] L, n NULL OPTIONAL, ...}");
        bench.decode(0, BER, contents("31", contents("a0", listOf(65534)) + "0500"), "{l " + printedListOf(65534) + ", n NULL}");
        bench.decode(0, BER, contents("31", contents("a0", listOf(65534)) + "05000500"), LONG);
        bench.decode(0, BER, contents("31", contents("a0", listOf(65533)) + "05000500"), NONE);
        bench.decode(0, BER, contents("31", contents("a0", listOf(65534)) + "050005"), LONG);
        bench.decode(0, BER, contents("31", contents("a0", listOf(65534)) + "0500" + "020105"), "{l " + printedListOf(65534) + ", n NULL}");
        bench.decode(0, BER, contents("31", "0500" + contents("a0", listOf(65534)) + "a0"), LONG);
        bench.decode(0, BER, contents("31", "0500" + contents("a0", listOf(65533)) + "a0"), NONE);
    }

    private static void depthBeforeTheOther() {
        Kit.sentence("Promise 6: (more than 60 one within another, too: ..; this before the other): UnsupportedOperationException.");
        Bench bench = many("SEQUENCE {l L, d D} D ::= SEQUENCE OF D");
        String deep = wrap(59, "30", "");
        bench.decode(0, BER, contents("30", listOf(65476) + deep), "{l " + printedListOf(65476) + ", d " + "{".repeat(59) + "}".repeat(59) + "}");
        bench.decode(0, BER, contents("30", listOf(65477) + deep), LONG);
        bench.decode(0, BER, contents("30", listOf(65476) + wrap(60, "30", "")), NONE);
        bench.decode(0, BER, contents("30", listOf(65477) + wrap(60, "30", "")), LONG);
        bench.decode(0, BER, contents("30", listOf(65475) + wrap(60, "30", "")), NONE);
    }
}
