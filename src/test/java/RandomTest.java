import java.util.Arrays;
import java.util.Random;

/** Promises 4 to 6 on TEXTS, VALUES and bytes at random: what is encoded comes back, and nothing else is ever thrown. */
final class RandomTest {
    private static final int MODULES = 400;
    private static final int TYPES = 5;
    private static final Random RANDOM = new Random(20261115);

    private static int sound;
    private static int changed;

    private RandomTest() {
    }

    public static void main(String[] args) {
        for (int seed = 1; seed <= MODULES; seed++) {
            Maker maker = new Maker(seed);
            String text = maker.module(TYPES);
            SyntaxForge forge = new SyntaxForge();
            String answer = Kit.read(forge, text);
            if (!answer.equals(Integer.toString(TYPES))) {
                Kit.due("module " + seed + " is sound or too deep in DEFAULTS", answer, "ArithmeticException");
                continue;
            }
            sound++;
            for (int t = 0; t < TYPES; t++) {
                for (int i = 0; i < 4; i++) {
                    roundTrip(forge, seed, t, maker.value(t));
                }
            }
            damageTexts(forge, text);
        }
        System.out.println(sound + " TEXTS were sound, " + changed + " damaged bytes were VALUES");
        Kit.due("most TEXTS are sound", sound > MODULES / 2, true);
        Kit.due("some damaged bytes are VALUES", changed > 1000, true);
        Kit.finish();
    }

    private static void roundTrip(SyntaxForge forge, int seed, int t, String value) {
        String what = "module " + seed + " type " + t + " " + value;
        String der = Kit.encode(forge, t, 0, value);
        String per = Kit.encode(forge, t, 1, value);
        Kit.due(what + " is a VALUE", der.contains("@") || per.contains("@"), false);
        String printed = Kit.decode(forge, t, 0, Kit.hex(der));
        Kit.due(what + " by DER as by BER", Kit.decode(forge, t, 2, Kit.hex(der)), printed);
        Kit.due(what + " by DER again", Kit.encode(forge, t, 0, printed), der);
        Kit.due(what + " with other lengths", Kit.decode(forge, t, 2, Kit.hex(loosened(der))), printed);
        String plain = Kit.decode(forge, t, 1, Kit.hex(per));
        Kit.due(what + " by PER again", Kit.encode(forge, t, 1, plain), per);
        Kit.due(what + " by PER and DER", Kit.encode(forge, t, 0, plain), der);
        damage(forge, t, Kit.hex(der));
        damage(forge, t, Kit.hex(per));
        damageValue(forge, t, value);
    }

    /** The same in BER, lengths told otherwise where a VALUE is constructed. */
    private static String loosened(String der) {
        byte[] bytes = Kit.hex(der);
        StringBuilder text = new StringBuilder();
        int at = 0;
        while (at < bytes.length) {
            int start = at;
            at += (bytes[at] & 31) == 31 ? 2 : 1;
            int length = bytes[at] & 255;
            at++;
            if (length > 127) {
                int n = length - 128;
                length = 0;
                for (int i = 0; i < n; i++, at++) {
                    length = length << 8 | bytes[at] & 255;
                }
            }
            String identifier = Kit.toHex(Arrays.copyOfRange(bytes, start, (bytes[start] & 31) == 31 ? start + 2 : start + 1));
            String contents = Kit.toHex(Arrays.copyOfRange(bytes, at, at + length));
            boolean constructed = (bytes[start] & 32) != 0;
            contents = constructed ? loosened(contents) : contents;
            if (constructed && RANDOM.nextBoolean()) {
                text.append(identifier).append("80").append(contents).append("0000");
            } else {
                text.append(identifier).append("84").append(String.format("%08x", contents.length() / 2)).append(contents);
            }
            at += length;
        }
        return text.toString();
    }

    private static byte[] damaged(byte[] bytes) {
        byte[] other = Arrays.copyOf(bytes, Math.max(0, bytes.length + (RANDOM.nextInt(4) == 0 ? RANDOM.nextInt(5) - 2 : 0)));
        for (int i = RANDOM.nextInt(3); i >= 0 && other.length > 0; i--) {
            int at = RANDOM.nextInt(other.length);
            other[at] = (byte) (RANDOM.nextBoolean() ? RANDOM.nextInt(256) : other[at] ^ 1 << RANDOM.nextInt(8));
        }
        return other;
    }

    private static void damage(SyntaxForge forge, int t, byte[] bytes) {
        byte[] other = damaged(bytes);
        for (int codec = 0; codec < 3; codec++) {
            byte[] before = Kit.result(forge);
            int place = forge.count(3);
            String what = "damaged " + Kit.toHex(other) + " of " + t + " by " + codec;
            Kit.lay(forge, other);
            int c = codec;
            String thrown = Kit.thrown(() -> forge.decode(t, c));
            Kit.due(what + " leaves the tape empty", forge.count(0), 0);
            Kit.due(what + " tells no PLACE", forge.count(3), place);
            if (!thrown.isEmpty()) {
                Kit.due(what, "UnsupportedOperationException IndexOutOfBoundsException".contains(thrown), true);
                Kit.due(what + " leaves THE RESULT", Arrays.equals(before, Kit.result(forge)), true);
                continue;
            }
            changed++;
            String printed = new String(Kit.result(forge), java.nio.charset.StandardCharsets.ISO_8859_1);
            if (!printed.contains("-9223372036854775808")) {
                String again = Kit.encode(forge, t, codec == 1 ? 1 : 0, printed);
                String back = Kit.decode(forge, t, codec == 1 ? 1 : 0, Kit.hex(again));
                Kit.due(what + " is a VALUE", Kit.encode(forge, t, codec == 1 ? 1 : 0, back), again);
            }
        }
    }

    private static void damageValue(SyntaxForge forge, int t, String value) {
        byte[] other = damaged(Kit.ascii(value));
        for (int codec = 0; codec < 2; codec++) {
            Kit.lay(forge, other);
            int c = codec;
            String thrown = Kit.thrown(() -> forge.encode(t, c));
            String what = "damaged " + Kit.toHex(other) + " of " + t + " to " + codec;
            if (!thrown.isEmpty()) {
                Kit.due(what, thrown, "UnsupportedOperationException");
                Kit.due(what + " tells a PLACE", forge.count(3) >= 0 && forge.count(3) <= other.length, true);
            }
            Kit.due(what + " leaves the tape empty", forge.count(0), 0);
        }
    }

    private static void damageTexts(SyntaxForge forge, String text) {
        for (int i = 0; i < 20; i++) {
            byte[] other = damaged(Kit.ascii(text));
            int types = forge.count(2);
            Kit.lay(forge, other);
            String thrown = Kit.thrown(() -> forge.read());
            if (thrown.equals("UnsupportedOperationException")) {
                Kit.due("a PLACE in " + text, forge.count(3) >= 0 && forge.count(3) <= other.length, true);
            } else if (!thrown.isEmpty()) {
                Kit.due("damaged " + text, thrown, "ArithmeticException");
                Kit.due("no PLACE in " + text, forge.count(3), -1);
            }
            if (!thrown.isEmpty()) {
                Kit.due("TYPES stay", forge.count(2), types);
            }
        }
    }
}
