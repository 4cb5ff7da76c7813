import java.util.ArrayList;
import java.util.Arrays;

/** Modules of ASN.1 types, and values of them in DER, BER and unaligned PER. */
public final class SyntaxForge {
    private static final int LONGEST = 65536;
    private static final int DEEPEST = 60;
    private static final int FRAGMENT = 16384;

    private Bytes tape;
    private Bytes taken;
    private Bytes result;
    private Bytes out;
    private boolean hasText;
    private Schema schema;
    private Schema spare;
    private final Scanner scanner;
    private final Parser parser;
    private final Values values;
    private final Der der;
    private final BerReader berReader;
    private final PerWriter perWriter;
    private final PerReader perReader;

    public SyntaxForge() {
        tape = new Bytes(256);
        taken = new Bytes(256);
        result = new Bytes(256);
        out = new Bytes(256);
        hasText = false;
        schema = new Schema();
        spare = new Schema();
        scanner = new Scanner();
        parser = new Parser(scanner);
        values = new Values();
        der = new Der();
        berReader = new BerReader(values, der);
        perWriter = new PerWriter();
        perReader = new PerReader(values);
    }

    public int feed(int a, int b, int c, int d, int e) throws IndexOutOfBoundsException {
        if (tape.length > LONGEST - 20) {
            throw new IndexOutOfBoundsException();
        }
        tape.putInt(a);
        tape.putInt(b);
        tape.putInt(c);
        tape.putInt(d);
        tape.putInt(e);
        return tape.length;
    }

    public int end(int n) throws IllegalArgumentException {
        if (n < 0 || n > tape.length) {
            throw new IllegalArgumentException();
        }
        tape.length = n;
        return n;
    }

    public int read() throws UnsupportedOperationException, ArithmeticException {
        Bytes text = takeTape();
        Schema next = spare;
        next.clear();
        scanner.scan(text, next, true);
        parser.module(text, next);
        next.prove(der);
        spare = schema;
        schema = next;
        hasText = true;
        return next.assigned.size();
    }

    public int encode(int t, int codec) throws IllegalArgumentException, IllegalStateException,
            UnsupportedOperationException, IndexOutOfBoundsException {
        Type type = chosen(t, codec, 1);
        Bytes text = takeTape();
        scanner.scan(text, schema, false);
        Value value = parser.alone(text, values);
        Value wrong = values.wrong(value, type);
        if (wrong != null) {
            scanner.told = wrong.place;
            throw new UnsupportedOperationException();
        }
        if (codec == 0 || schema.hasDefaults()) {
            der.settle(values, 0, values.used);
        }
        if (codec == 0) {
            der.write(value, out);
        } else {
            perWriter.write(value, out);
        }
        return keepOut();
    }

    public int decode(int t, int codec) throws IllegalArgumentException, IllegalStateException,
            UnsupportedOperationException, IndexOutOfBoundsException {
        Type type = chosen(t, codec, 2);
        Bytes bytes = takeTape();
        Value value = codec == 1 ? perReader.all(bytes, type)
                : berReader.all(bytes, type, schema, codec == 0);
        if (codec != 0 && schema.hasDefaults()) {
            der.settle(values, 0, values.used);
        }
        values.print(value, schema, out);
        return keepOut();
    }

    public long tag(int t) throws IllegalArgumentException, IllegalStateException {
        return chosen(t, 0, 0).first;
    }

    public long word(int i) throws IndexOutOfBoundsException {
        if (i < 0 || i >= result.length) {
            throw new IndexOutOfBoundsException();
        }
        long w = 0;
        for (int k = 0; k < 8; k++) {
            w = w << 8 | Math.max(0, result.get(i + k));
        }
        return w;
    }

    public int count(int what) throws IllegalArgumentException {
        switch (what) {
            case 0:
                return tape.length;
            case 1:
                return result.length;
            case 2:
                return hasText ? schema.assigned.size() : 0;
            case 3:
                return scanner.told;
            default:
                throw new IllegalArgumentException();
        }
    }

    private Type chosen(int t, int codec, int lastCodec) {
        if (t < 0 || codec < 0 || codec > lastCodec || hasText && t >= schema.assigned.size()) {
            throw new IllegalArgumentException();
        }
        if (!hasText) {
            throw new IllegalStateException();
        }
        return schema.assigned.get(t);
    }

    /** The TAPE is empty before its bytes are looked at, so it is empty whatever is thrown. */
    private Bytes takeTape() {
        Bytes full = tape;
        tape = taken;
        tape.length = 0;
        taken = full;
        return full;
    }

    /** The rows change places only when a call has come through, so a throw leaves THE RESULT. */
    private int keepOut() {
        Bytes old = result;
        result = out;
        out = old;
        return result.length;
    }

    /** A row of bytes that grows as it is filled. */
    static final class Bytes {
        byte[] at;
        int length;

        Bytes(int room) {
            at = new byte[room];
            length = 0;
        }

        void put(int b) {
            if (length >= at.length) {
                at = Arrays.copyOf(at, 2 * at.length + 16);
            }
            at[length] = (byte) b;
            length++;
        }

        /** As put, where THE RESULT is made. */
        void give(int b) {
            if (length >= LONGEST) {
                throw new IndexOutOfBoundsException();
            }
            put(b);
        }

        void putInt(int four) {
            put(four >> 24);
            put(four >> 16);
            put(four >> 8);
            put(four);
        }

        void putSevens(long n) {
            for (int i = sevens(n) - 1; i >= 0; i--) {
                put(sevenOf(n, i));
            }
        }

        /** -1 outside, so that looking ahead needs no test of its own. */
        int get(int i) {
            return i >= 0 && i < length && i < at.length ? at[i] & 255 : -1;
        }

        static int sevens(long n) {
            return Math.max(1, (70 - Long.numberOfLeadingZeros(n)) / 7);
        }

        static int sevenOf(long n, int i) {
            return (int) (n >>> 7 * i) & 127 | (i > 0 ? 128 : 0);
        }

        static int eights(long n) {
            return Math.max(1, (71 - Long.numberOfLeadingZeros(n)) / 8);
        }

        static int signedEights(long n) {
            return (64 - Long.numberOfLeadingZeros(n ^ n >> 63)) / 8 + 1;
        }
    }

    /** One TYPE as it is written, and behind prove() what follows from it. */
    static final class Type {
        static final int BOOLEAN = 1;
        static final int INTEGER = 2;
        static final int BITS = 3;
        static final int OCTETS = 4;
        static final int NULL = 5;
        static final int OBJECT = 6;
        static final int ENUMERATED = 10;
        static final int UTF8 = 12;
        static final int SEQUENCE = 16;
        static final int SET = 17;
        static final int NUMERIC = 18;
        static final int PRINTABLE = 19;
        static final int IA5 = 22;
        static final int VISIBLE = 26;
        static final int SEQUENCE_OF = 48;
        static final int SET_OF = 49;
        static final int CHOICE = 64;
        static final int TAGGED = 65;
        static final int NAMED = 66;
        static final int UNSEEN = 0;
        static final int WAITING = 1;
        static final int KNOWN = 2;
        static final String PRINTABLE_SIGNS = " '()+,-./:=?";

        int kind;
        int name;
        Type inner;
        long tag;
        boolean explicit;
        boolean floor;
        boolean ceiling;
        long low;
        long high;
        boolean open;
        ArrayList<Member> members;
        int roots;
        Member[] order;
        long least;
        int state;
        Type base;
        long first;
        Type rest;
        long identifier;
        int identifierBytes;

        Type(int sort) {
            kind = sort;
            first = -1;
            least = -1;
        }

        boolean isLink() {
            return kind == TAGGED || kind == NAMED;
        }

        boolean isConstructed() {
            return (kind & 31) == SEQUENCE || (kind & 31) == SET;
        }

        boolean hasParts() {
            return kind == SEQUENCE || kind == SET;
        }

        int size() {
            return members == null ? 0 : members.size();
        }

        boolean within(long n) {
            return (!floor || n >= low) && (!ceiling || n <= high);
        }

        boolean fits(long n) {
            return open || within(n);
        }

        Member named(int id) {
            for (int i = 0; i < size(); i++) {
                if (members.get(i).name == id) {
                    return members.get(i);
                }
            }
            return null;
        }

        Member numbered(long n) {
            for (int i = 0; i < size(); i++) {
                if (members.get(i).number == n) {
                    return members.get(i);
                }
            }
            return null;
        }

        /** The PART of that ID from there on, unless one that must be there comes before it. */
        Member partFrom(int from, int id) {
            for (int i = from; i < size(); i++) {
                Member m = members.get(i);
                if (m.name == id) {
                    return m;
                }
                if (m.isRequired()) {
                    return null;
                }
            }
            return null;
        }

        boolean mayEndAt(int from) {
            for (int i = from; i < size(); i++) {
                if (members.get(i).isRequired()) {
                    return false;
                }
            }
            return true;
        }

        /** The TYPE behind has its TAGS by then. */
        void takeTags() {
            state = KNOWN;
            base = this;
            if (!isLink()) {
                first = kind == CHOICE ? -1 : kind & 31;
            } else if (inner != null) {
                base = inner.base;
                first = kind == TAGGED ? tag : inner.first;
                rest = kind == TAGGED && explicit && inner.first >= 0 ? inner : inner.rest;
            }
            if (first >= 0) {
                identify(rest != null || base.kind == CHOICE || base.isConstructed());
            }
        }

        /** The bytes of the first identifier from the highest of eight on, so that they compare as numbers. */
        private void identify(boolean constructed) {
            long number = first & (1L << 40) - 1;
            long head = first >> 40 << 6 | (constructed ? 32 : 0) | Math.min(number, 31);
            identifier = head << 56;
            identifierBytes = 1;
            if (number >= 31) {
                int more = Bytes.sevens(number);
                for (int i = 0; i < more; i++) {
                    identifier |= (long) Bytes.sevenOf(number, more - 1 - i) << 48 - 8 * i;
                }
                identifierBytes += more;
            }
        }

        /** A CHOICE within a PART or an ALTERNATIVE has a least TAG before this is asked. */
        long leastTag() {
            return first >= 0 || base == null ? first : base.least;
        }

        static boolean allows(int kind, int c) {
            switch (kind) {
                case NUMERIC:
                    return c == ' ' || Scanner.isDigit(c);
                case PRINTABLE:
                    return Scanner.isLetter(c) || Scanner.isDigit(c) || PRINTABLE_SIGNS.indexOf((char) c) >= 0;
                case VISIBLE:
                    return c >= 32 && c <= 126;
                default:
                    return c >= 1 && c <= 127;
            }
        }
    }

    /** A PART, an ALTERNATIVE or an ITEM. */
    static final class Member {
        int name;
        int index;
        Type type;
        boolean extension;
        boolean optional;
        boolean numbered;
        long number;
        int rank;
        Value standard;
        int standardFrom;
        int standardTo;
        boolean settled;

        boolean isRequired() {
            return !extension && !isMarked();
        }

        boolean isMarked() {
            return optional || standard != null;
        }
    }

    /** The TOKENS of a tape. */
    static final class Scanner {
        static final int END = 0;
        static final int BAD = 1;
        static final int TYPENAME = 2;
        static final int ID = 3;
        static final int NUMBER = 4;
        static final int STRING = 5;
        static final int BITS = 6;
        static final int HEX = 7;
        static final int ASSIGN = 8;
        static final int UPTO = 9;
        static final int DOTS = 10;
        static final int KEPT = 128;
        static final int KEPT_WORDS = 35;
        static final int K_DEFINITIONS = 128;
        static final int K_EXPLICIT = 129;
        static final int K_IMPLICIT = 130;
        static final int K_AUTOMATIC = 131;
        static final int K_TAGS = 132;
        static final int K_BEGIN = 133;
        static final int K_END = 134;
        static final int K_UNIVERSAL = 135;
        static final int K_APPLICATION = 136;
        static final int K_PRIVATE = 137;
        static final int K_INTEGER = 138;
        static final int K_ENUMERATED = 139;
        static final int K_BIT = 140;
        static final int K_STRING = 141;
        static final int K_OCTET = 142;
        static final int K_OBJECT = 143;
        static final int K_IDENTIFIER = 144;
        static final int K_SEQUENCE = 145;
        static final int K_SET = 146;
        static final int K_OF = 147;
        static final int K_CHOICE = 148;
        static final int K_SIZE = 149;
        static final int K_OPTIONAL = 150;
        static final int K_DEFAULT = 151;
        static final int K_BOOLEAN = 152;
        static final int K_TRUE = 153;
        static final int K_FALSE = 154;
        static final int K_NULL = 155;
        static final int K_MIN = 156;
        static final int K_MAX = 157;
        static final int K_UTF8 = 158;
        static final int K_PRINTABLE = 159;
        static final int K_IA5 = 160;
        static final int K_NUMERIC = 161;
        static final int K_VISIBLE = 162;
        static final String WORDS = "DEFINITIONS EXPLICIT IMPLICIT AUTOMATIC TAGS BEGIN END UNIVERSAL APPLICATION PRIVATE INTEGER ENUMERATED BIT STRING OCTET OBJECT IDENTIFIER SEQUENCE SET OF CHOICE SIZE OPTIONAL DEFAULT BOOLEAN TRUE FALSE NULL MIN MAX UTF8String PrintableString IA5String NumericString VisibleString";

        int[] kinds;
        int[] places;
        long[] numbers;
        int count;
        int told;
        private Bytes tape;
        private Schema names;
        private boolean adding;

        Scanner() {
            kinds = new int[64];
            places = new int[64];
            numbers = new long[64];
            told = -1;
        }

        static boolean isDigit(int c) {
            return c >= '0' && c <= '9';
        }

        static boolean isCapital(int c) {
            return c >= 'A' && c <= 'Z';
        }

        static boolean isLetter(int c) {
            return c >= 'a' && c <= 'z' || c >= 'A' && c <= 'Z';
        }

        static int hexDigit(int c) {
            return isDigit(c) ? c - '0' : c >= 'A' && c <= 'F' ? c - 'A' + 10 : -1;
        }

        /** A byte that begins no TOKEN ends the row as BAD, with which no SYNTAX goes on. */
        void scan(Bytes from, Schema words, boolean add) {
            tape = from;
            names = words;
            adding = add;
            told = -1;
            count = 0;
            int i = blanks(0);
            while (i < tape.length) {
                int next = token(i);
                if (next <= i) {
                    keep(BAD, i, 0);
                    return;
                }
                i = blanks(next);
            }
            keep(END, tape.length, 0);
        }

        int blanks(int from) {
            boolean comment = false;
            for (int i = from; i < tape.length; i++) {
                int c = tape.get(i);
                if (c == '-' && tape.get(i + 1) == '-') {
                    comment = !comment;
                    i++;
                } else if (comment) {
                    comment = c != 10;
                } else if (c != 9 && c != 10 && c != 13 && c != 32) {
                    return i;
                }
            }
            return tape.length;
        }

        /** Answers the place behind the TOKEN, or -1. */
        private int token(int i) {
            int c = tape.get(i);
            if (isLetter(c)) {
                return scanWord(i);
            }
            if (isDigit(c)) {
                return scanNumber(i);
            }
            if (c == '"') {
                return scanString(i);
            }
            return c == '\'' ? scanDigits(i) : scanSign(i, c);
        }

        private void keep(int kind, int place, long number) {
            if (count >= kinds.length) {
                kinds = Arrays.copyOf(kinds, 2 * count + 16);
                places = Arrays.copyOf(places, 2 * count + 16);
                numbers = Arrays.copyOf(numbers, 2 * count + 16);
            }
            kinds[count] = kind;
            places[count] = place;
            numbers[count] = number;
            count++;
        }

        private boolean goesOn(int i) {
            int c = tape.get(i);
            return isLetter(c) || isDigit(c);
        }

        private int scanWord(int from) {
            int i = from + 1;
            while (i < tape.length && (goesOn(i) || tape.get(i) == '-' && goesOn(i + 1))) {
                i++;
            }
            int symbol = names.symbol(tape, from, i - from, adding);
            if (symbol >= 0 && symbol < KEPT_WORDS) {
                keep(KEPT + symbol, from, 0);
            } else {
                keep(isCapital(tape.get(from)) ? TYPENAME : ID, from, symbol);
            }
            return i;
        }

        private int scanNumber(int from) {
            long n = 0;
            int i = from;
            for (; i < tape.length && isDigit(tape.get(i)); i++) {
                int digit = tape.get(i) - '0';
                if (i > from && n == 0 || n > (Long.MAX_VALUE - digit) / 10) {
                    return -1;
                }
                n = 10 * n + digit;
            }
            keep(NUMBER, from, n);
            return i;
        }

        private int scanString(int from) {
            for (int i = from + 1; i < tape.length; i++) {
                int c = tape.get(i);
                if (c < 1 || c > 127) {
                    return -1;
                }
                if (c == '"') {
                    if (tape.get(i + 1) != '"') {
                        keep(STRING, from, i);
                        return i + 1;
                    }
                    i++;
                }
            }
            return -1;
        }

        private int scanDigits(int from) {
            boolean binary = true;
            int i = blanks(from + 1);
            for (; i < tape.length && hexDigit(tape.get(i)) >= 0; i = blanks(i + 1)) {
                binary = binary && hexDigit(tape.get(i)) <= 1;
            }
            int sort = tape.get(i + 1);
            if (tape.get(i) != '\'' || sort != 'H' && !(sort == 'B' && binary)) {
                return -1;
            }
            keep(sort == 'B' ? BITS : HEX, from, i);
            return i + 2;
        }

        private int scanSign(int i, int c) {
            if (c == ':' && tape.get(i + 1) == ':' && tape.get(i + 2) == '=') {
                keep(ASSIGN, i, 0);
                return i + 3;
            }
            if (c == '.') {
                boolean three = tape.get(i + 2) == '.';
                if (tape.get(i + 1) != '.') {
                    return -1;
                }
                keep(three ? DOTS : UPTO, i, 0);
                return three ? i + 3 : i + 2;
            }
            if (c < 0 || "{}()[],:-".indexOf((char) c) < 0) {
                return -1;
            }
            keep(c, i, 0);
            return i + 1;
        }
    }

    /** A TEXT: its names, its TYPES, and whether it is SOUND. */
    static final class Schema {
        private static final int BUCKETS = 256;
        private static final int TURNS = 1000000;

        final ArrayList<Type> assigned;
        final Values defaults;
        int mode;
        boolean broken;
        private final ArrayList<Type> types;
        private final ArrayList<Member> standards;
        private final ArrayList<Type> path;
        private final Bytes words;
        private final Bytes letters;
        private final int[] buckets;
        private int[] starts;
        private int[] lengths;
        private int[] nexts;
        private int[] owners;
        private int symbols;
        private int[] steps;
        private long[] keys;
        private int[] stamps;
        private int stamp;

        Schema() {
            assigned = new ArrayList<>();
            defaults = new Values();
            types = new ArrayList<>();
            standards = new ArrayList<>();
            path = new ArrayList<>();
            words = new Bytes(Scanner.WORDS.length());
            for (int i = 0; i < Scanner.WORDS.length(); i++) {
                words.put(Scanner.WORDS.charAt(i));
            }
            letters = new Bytes(512);
            buckets = new int[BUCKETS];
            starts = new int[64];
            lengths = new int[64];
            nexts = new int[64];
            owners = new int[64];
            steps = new int[16];
            keys = new long[64];
            stamps = new int[64];
            clear();
        }

        void clear() {
            assigned.clear();
            types.clear();
            standards.clear();
            defaults.clear();
            broken = false;
            keepWords();
        }

        boolean hasDefaults() {
            return !standards.isEmpty();
        }

        /** KEPT words are the first symbols, so one look tells them from names. */
        private void keepWords() {
            Arrays.fill(buckets, -1);
            letters.length = 0;
            symbols = 0;
            int from = 0;
            for (int i = 0; i <= words.length; i++) {
                if (i == words.length || words.get(i) == ' ') {
                    symbol(words, from, i - from, true);
                    from = i + 1;
                }
            }
        }

        /** Equal names have equal symbols; -1 for one that is unknown and not to be added. */
        int symbol(Bytes text, int from, int length, boolean adding) {
            int hash = length;
            for (int i = 0; i < length; i++) {
                hash = 31 * hash + text.get(from + i);
            }
            int bucket = (hash ^ hash >>> 8) & BUCKETS - 1;
            for (int s = buckets[bucket]; s >= 0; s = nexts[s]) {
                if (lengths[s] == length && isName(s, text, from)) {
                    return s;
                }
            }
            return adding ? added(text, from, length, bucket) : -1;
        }

        private boolean isName(int s, Bytes text, int from) {
            for (int i = 0; i < lengths[s]; i++) {
                if (letters.get(starts[s] + i) != text.get(from + i)) {
                    return false;
                }
            }
            return true;
        }

        private int added(Bytes text, int from, int length, int bucket) {
            if (symbols >= starts.length) {
                starts = Arrays.copyOf(starts, 2 * symbols);
                lengths = Arrays.copyOf(lengths, 2 * symbols);
                nexts = Arrays.copyOf(nexts, 2 * symbols);
                owners = Arrays.copyOf(owners, 2 * symbols);
            }
            starts[symbols] = letters.length;
            lengths[symbols] = length;
            nexts[symbols] = buckets[bucket];
            owners[symbols] = -1;
            buckets[bucket] = symbols;
            for (int i = 0; i < length; i++) {
                letters.put(text.get(from + i));
            }
            symbols++;
            return symbols - 1;
        }

        void giveName(int symbol, Bytes out) {
            if (symbol < 0 || symbol >= symbols) {
                return;
            }
            for (int i = 0; i < lengths[symbol]; i++) {
                out.give(letters.get(starts[symbol] + i));
            }
        }

        Type make(int kind) {
            Type t = new Type(kind);
            types.add(t);
            return t;
        }

        void assign(int symbol, Type t) {
            if (owners[symbol] >= 0) {
                broken = true;
            }
            owners[symbol] = assigned.size();
            assigned.add(t);
        }

        void addStandard(Member m) {
            standards.add(m);
        }

        void prove(Der der) {
            linkNames();
            insist();
            for (int i = 0; i < types.size(); i++) {
                resolve(types.get(i));
            }
            insist();
            makeRoom();
            for (int i = 0; i < types.size(); i++) {
                lookAt(types.get(i));
            }
            insist();
            measureChoices();
            insist();
            for (int i = 0; i < types.size(); i++) {
                lookAtTags(types.get(i));
            }
            insist();
            for (int i = 0; i < types.size(); i++) {
                arrange(types.get(i));
            }
            settleStandards(der);
            insist();
        }

        private void insist() {
            if (broken) {
                throw new ArithmeticException();
            }
        }

        private void linkNames() {
            for (int i = 0; i < types.size(); i++) {
                Type t = types.get(i);
                if (t.kind == Type.NAMED) {
                    int owner = owners[t.name];
                    if (owner < 0) {
                        broken = true;
                    } else {
                        t.inner = assigned.get(owner);
                    }
                }
            }
        }

        /** A row, not recursion: TYPENAMES may follow one another as long as the TEXT is. */
        private void resolve(Type start) {
            path.clear();
            Type t = start;
            while (t != null && t.state == Type.UNSEEN) {
                t.state = Type.WAITING;
                path.add(t);
                t = t.isLink() ? t.inner : null;
            }
            if (t != null && t.state == Type.WAITING) {
                broken = true;
                return;
            }
            for (int i = path.size() - 1; i >= 0; i--) {
                path.get(i).takeTags();
            }
        }

        /** One row of keys serves all sets: what has an older stamp is not in the set. */
        private void makeRoom() {
            int most = 0;
            for (int i = 0; i < types.size(); i++) {
                most += 1 + types.get(i).size();
            }
            int room = keys.length;
            while (room < 2 * most + 2) {
                room *= 2;
            }
            if (room > keys.length) {
                keys = new long[room];
                stamps = new int[room];
            }
            if (steps.length < types.size() + 1) {
                steps = new int[2 * types.size() + 1];
            }
        }

        private void newSet() {
            stamp++;
        }

        /** False if it was there. */
        private boolean addKey(long key) {
            int mask = keys.length - 1;
            int at = (int) (key * 0x9E3779B97F4A7C15L >>> 40) & mask;
            for (int i = 0; i <= mask; i++) {
                if (stamps[at] != stamp) {
                    stamps[at] = stamp;
                    keys[at] = key;
                    return true;
                }
                if (keys[at] == key) {
                    return false;
                }
                at = at + 1 & mask;
            }
            return false;
        }

        private void lookAt(Type t) {
            if (t.floor && t.ceiling && t.low > t.high) {
                broken = true;
            }
            newSet();
            for (int i = 0; i < t.size(); i++) {
                if (!addKey(t.members.get(i).name)) {
                    broken = true;
                }
            }
            if (t.kind == Type.ENUMERATED) {
                newSet();
                numberRoots(t);
                numberExtensions(t);
            }
        }

        private void numberRoots(Type t) {
            for (int i = 0; i < t.roots; i++) {
                Member m = t.members.get(i);
                if (m.numbered && !addKey(m.number)) {
                    broken = true;
                }
            }
            long next = 0;
            for (int i = 0; i < t.roots; i++) {
                Member m = t.members.get(i);
                if (!m.numbered) {
                    for (int tries = 0; tries <= t.roots && !addKey(next); tries++) {
                        next++;
                    }
                    m.number = next;
                    next++;
                }
            }
        }

        private void numberExtensions(Type t) {
            long greatest = Long.MIN_VALUE;
            for (int i = 0; i < t.size(); i++) {
                Member m = t.members.get(i);
                if (m.extension) {
                    boolean full = greatest == Long.MAX_VALUE && !m.numbered;
                    m.number = m.numbered ? m.number : greatest + 1;
                    boolean falls = i > t.roots && m.number <= t.members.get(i - 1).number;
                    if (full || falls || !addKey(m.number)) {
                        broken = true;
                    }
                }
                greatest = Math.max(greatest, m.number);
            }
        }

        /** A CHOICE has its least TAG when all CHOICES within have theirs; one in a ring never has. */
        private void measureChoices() {
            boolean going = true;
            boolean left = false;
            for (int round = 0; going && round <= types.size(); round++) {
                going = false;
                left = false;
                for (int i = types.size() - 1; i >= 0; i--) {
                    Type t = types.get(i);
                    if (t.kind == Type.CHOICE && t.least < 0) {
                        t.least = leastOf(t);
                        going = going || t.least >= 0;
                        left = left || t.least < 0;
                    }
                }
            }
            broken = broken || left;
        }

        private long leastOf(Type choice) {
            long least = Long.MAX_VALUE;
            for (int i = 0; i < choice.size(); i++) {
                least = Math.min(least, choice.members.get(i).type.leastTag());
            }
            return least;
        }

        private void lookAtTags(Type t) {
            if (t.kind != Type.CHOICE && !t.hasParts()) {
                return;
            }
            newSet();
            for (int i = 0; i < t.size() && !broken; i++) {
                Member m = t.members.get(i);
                addTags(m.type);
                if (t.kind == Type.SEQUENCE && m.isRequired()) {
                    newSet();
                }
            }
        }

        private void addTags(Type t) {
            if (t.first >= 0) {
                broken = broken || !addKey(t.first);
            } else {
                walk(t.base, -1);
            }
        }

        /** The ALTERNATIVE whose first TAGS the given one is among. */
        Member alternative(Type choice, long tag) {
            int i = walk(choice, tag);
            return i >= 0 && i < choice.size() ? choice.members.get(i) : null;
        }

        boolean covers(Type t, long tag) {
            return t.first >= 0 ? t.first == tag : alternative(t.base, tag) != null;
        }

        /** Goes through all first TAGS of a CHOICE: adds them to the set, or (wanted not -1) looks for one. */
        private int walk(Type choice, long wanted) {
            path.clear();
            path.add(choice);
            steps[0] = 0;
            for (int turn = 0; !path.isEmpty() && turn < TURNS && !broken; turn++) {
                int depth = path.size() - 1;
                Type c = path.get(depth);
                int i = steps[depth];
                steps[depth]++;
                if (i >= c.size()) {
                    path.remove(depth);
                    continue;
                }
                Type t = c.members.get(i).type;
                if (t.first < 0) {
                    steps[depth + 1] = 0;
                    path.add(t.base);
                } else if (wanted < 0) {
                    broken = !addKey(t.first);
                } else if (t.first == wanted) {
                    return steps[0] - 1;
                }
            }
            return -1;
        }

        /** PER counts ITEMS by their numbers, ALTERNATIVES and PARTS of a SET by their TAGS. */
        private void arrange(Type t) {
            if (t.members == null) {
                return;
            }
            Member[] row = new Member[t.roots];
            for (int i = 0; i < t.roots; i++) {
                row[i] = t.members.get(i);
            }
            for (int i = 0; i < t.size() && t.kind != Type.ENUMERATED; i++) {
                t.members.get(i).number = t.members.get(i).type.leastTag();
            }
            for (int gap = row.length / 2; gap > 0 && t.kind != Type.SEQUENCE; gap /= 2) {
                for (int i = gap; i < row.length; i++) {
                    Member m = row[i];
                    int at = i;
                    for (; at >= gap && row[at - gap].number > m.number; at -= gap) {
                        row[at] = row[at - gap];
                    }
                    row[at] = m;
                }
            }
            for (int i = 0; i < row.length; i++) {
                row[i].rank = i;
            }
            t.order = row;
        }

        /** In rounds: a DEFAULT is worked out as soon as those written in it are. */
        private void settleStandards(Der der) {
            for (int i = 0; i < standards.size(); i++) {
                Member m = standards.get(i);
                broken = broken || defaults.wrong(m.standard, m.type) != null;
            }
            boolean going = !broken;
            int left = standards.size();
            for (int round = 0; going && round <= standards.size(); round++) {
                going = false;
                for (int i = standards.size() - 1; i >= 0; i--) {
                    Member m = standards.get(i);
                    if (!m.settled && isReady(m)) {
                        der.settle(defaults, m.standardFrom, m.standardTo);
                        m.settled = true;
                        going = true;
                        left--;
                    }
                }
            }
            broken = broken || left > 0;
        }

        private boolean isReady(Member m) {
            for (int i = m.standardFrom; i < m.standardTo && i < defaults.used; i++) {
                Member part = defaults.all.get(i).member;
                if (part != null && part.standard != null && !part.settled) {
                    return false;
                }
            }
            return true;
        }
    }

    /** SYNTAX: a row of TOKENS becomes the TYPES of a TEXT, or a VALUE. */
    static final class Parser {
        private static final int CONTEXT = 2;
        private static final long TAG_NUMBERS = 1L << 31;
        private static final long CLASS = 1L << 40;

        private final Scanner scanner;
        private final Value[] unended;
        private Bytes tape;
        private Schema schema;
        private Values values;
        private int at;
        private int label;

        Parser(Scanner tokens) {
            scanner = tokens;
            unended = new Value[DEEPEST];
        }

        void module(Bytes text, Schema target) {
            tape = text;
            schema = target;
            values = target.defaults;
            at = 0;
            need(Scanner.TYPENAME);
            need(Scanner.K_DEFINITIONS);
            schema.mode = Scanner.K_EXPLICIT;
            if (kind(0) >= Scanner.K_EXPLICIT && kind(0) <= Scanner.K_AUTOMATIC) {
                schema.mode = kind(0);
                at++;
                need(Scanner.K_TAGS);
            }
            need(Scanner.ASSIGN);
            need(Scanner.K_BEGIN);
            for (int i = 0; kind(0) == Scanner.TYPENAME && i < scanner.count; i++) {
                int symbol = (int) need(Scanner.TYPENAME);
                need(Scanner.ASSIGN);
                schema.assign(symbol, type(1));
            }
            need(Scanner.K_END);
            need(Scanner.END);
        }

        Value alone(Bytes text, Values target) {
            tape = text;
            values = target;
            values.clear();
            at = 0;
            Value v = value();
            need(Scanner.END);
            return v;
        }

        private int kind(int ahead) {
            int i = at + ahead;
            return i < scanner.count ? scanner.kinds[i] : Scanner.BAD;
        }

        private long number() {
            return at < scanner.count ? scanner.numbers[at] : 0;
        }

        private void fail() {
            scanner.told = at < scanner.count ? scanner.places[at] : tape.length;
            throw new UnsupportedOperationException();
        }

        /** Goes on behind a TOKEN of that kind, and answers its number. */
        private long need(int kind) {
            if (kind(0) != kind) {
                fail();
            }
            long n = number();
            at++;
            return n;
        }

        private boolean take(int kind) {
            if (kind(0) != kind) {
                return false;
            }
            at++;
            return true;
        }

        private Type type(int depth) {
            if (depth > DEEPEST) {
                fail();
            }
            if (!take('[')) {
                return base(depth);
            }
            long sort = CONTEXT;
            if (kind(0) >= Scanner.K_UNIVERSAL && kind(0) <= Scanner.K_PRIVATE) {
                sort = kind(0) == Scanner.K_PRIVATE ? 3 : kind(0) - Scanner.K_UNIVERSAL;
                at++;
            }
            long number = need(Scanner.NUMBER);
            need(']');
            schema.broken = schema.broken || number >= TAG_NUMBERS;
            Type t = schema.make(Type.TAGGED);
            t.tag = sort * CLASS + number % TAG_NUMBERS;
            t.explicit = schema.mode == Scanner.K_EXPLICIT;
            if (take(Scanner.K_IMPLICIT)) {
                t.explicit = false;
            } else if (take(Scanner.K_EXPLICIT)) {
                t.explicit = true;
            }
            t.inner = base(depth);
            return t;
        }

        private Type base(int depth) {
            int kind = kind(0);
            Type t = schema.make(baseKind(kind));
            t.name = (int) number();
            at++;
            switch (kind) {
                case Scanner.K_BIT:
                case Scanner.K_OCTET:
                    need(Scanner.K_STRING);
                    sized(t);
                    break;
                case Scanner.K_PRINTABLE:
                case Scanner.K_IA5:
                case Scanner.K_NUMERIC:
                case Scanner.K_VISIBLE:
                    sized(t);
                    break;
                case Scanner.K_INTEGER:
                    range(t);
                    break;
                case Scanner.K_OBJECT:
                    need(Scanner.K_IDENTIFIER);
                    break;
                case Scanner.K_SEQUENCE:
                case Scanner.K_SET:
                    if (kind(0) != '{') {
                        t.kind = kind == Scanner.K_SEQUENCE ? Type.SEQUENCE_OF : Type.SET_OF;
                        size(t);
                        need(Scanner.K_OF);
                        t.inner = type(depth + 1);
                        break;
                    }
                    members(t, depth);
                    break;
                case Scanner.K_CHOICE:
                case Scanner.K_ENUMERATED:
                    members(t, depth);
                    break;
                default:
                    break;
            }
            return t;
        }

        private int baseKind(int token) {
            switch (token) {
                case Scanner.K_BOOLEAN:
                    return Type.BOOLEAN;
                case Scanner.K_INTEGER:
                    return Type.INTEGER;
                case Scanner.K_BIT:
                    return Type.BITS;
                case Scanner.K_OCTET:
                    return Type.OCTETS;
                case Scanner.K_NULL:
                    return Type.NULL;
                case Scanner.K_OBJECT:
                    return Type.OBJECT;
                case Scanner.K_ENUMERATED:
                    return Type.ENUMERATED;
                case Scanner.K_UTF8:
                    return Type.UTF8;
                case Scanner.K_SEQUENCE:
                    return Type.SEQUENCE;
                case Scanner.K_SET:
                    return Type.SET;
                case Scanner.K_NUMERIC:
                    return Type.NUMERIC;
                case Scanner.K_PRINTABLE:
                    return Type.PRINTABLE;
                case Scanner.K_IA5:
                    return Type.IA5;
                case Scanner.K_VISIBLE:
                    return Type.VISIBLE;
                case Scanner.K_CHOICE:
                    return Type.CHOICE;
                case Scanner.TYPENAME:
                    return Type.NAMED;
                default:
                    fail();
                    return 0;
            }
        }

        private long signed() {
            boolean minus = take('-');
            long n = need(Scanner.NUMBER);
            return minus ? -n : n;
        }

        private void range(Type t) {
            if (!take('(')) {
                return;
            }
            if (take(Scanner.K_MIN)) {
                if (kind(0) != Scanner.UPTO) {
                    fail();
                }
            } else {
                t.floor = true;
                t.low = signed();
            }
            endBounds(t);
        }

        /** What RANGE and SIZE have behind their first number; only in RANGE one may be below 0. */
        private void endBounds(Type t) {
            t.ceiling = true;
            t.high = t.low;
            if (take(Scanner.UPTO)) {
                t.ceiling = !take(Scanner.K_MAX);
                boolean minus = t.ceiling && t.kind == Type.INTEGER && take('-');
                long n = t.ceiling ? need(Scanner.NUMBER) : 0;
                t.high = minus ? -n : n;
            }
            if (take(',')) {
                need(Scanner.DOTS);
                t.open = true;
            }
            need(')');
        }

        private void sized(Type t) {
            if (!take('(')) {
                return;
            }
            if (kind(0) != Scanner.K_SIZE) {
                fail();
            }
            size(t);
            need(')');
        }

        private void size(Type t) {
            if (!take(Scanner.K_SIZE)) {
                return;
            }
            need('(');
            t.floor = true;
            t.low = need(Scanner.NUMBER);
            endBounds(t);
        }

        /** All that stands in the { } of a TYPE. */
        private void members(Type t, int depth) {
            need('{');
            t.members = new ArrayList<>();
            boolean going = !(t.hasParts() && kind(0) == '}');
            for (int i = 0; going && i < scanner.count; i++) {
                if (kind(0) == Scanner.DOTS && !t.open && (i > 0 || t.hasParts())) {
                    at++;
                    t.open = true;
                } else {
                    Member m = new Member();
                    m.name = (int) need(Scanner.ID);
                    m.index = t.size();
                    m.extension = t.open;
                    if (t.kind == Type.ENUMERATED) {
                        itemNumber(m);
                    } else {
                        m.type = type(depth + 1);
                    }
                    if (t.hasParts() && take(Scanner.K_OPTIONAL)) {
                        m.optional = true;
                    } else if (t.hasParts() && take(Scanner.K_DEFAULT)) {
                        m.standardFrom = values.used;
                        m.standard = value();
                        m.standardTo = values.used;
                        schema.addStandard(m);
                    }
                    t.members.add(m);
                    t.roots += t.open ? 0 : 1;
                }
                going = take(',');
            }
            need('}');
            if (schema.mode == Scanner.K_AUTOMATIC && t.kind != Type.ENUMERATED) {
                tagAll(t);
            }
        }

        private void itemNumber(Member m) {
            if (take('(')) {
                m.numbered = true;
                m.number = signed();
                need(')');
            }
        }

        private void tagAll(Type t) {
            for (int i = 0; i < t.size(); i++) {
                if (t.members.get(i).type.kind == Type.TAGGED) {
                    return;
                }
            }
            for (int i = 0; i < t.size(); i++) {
                Type tagged = schema.make(Type.TAGGED);
                tagged.tag = CONTEXT * CLASS + i;
                tagged.inner = t.members.get(i).type;
                t.members.get(i).type = tagged;
            }
        }

        /** With a row of what is begun and not ended in place of recursion, as this stands deep in TYPES. */
        private Value value() {
            int depth = 0;
            Value root = null;
            label = -1;
            for (int turn = 0; turn <= scanner.count; turn++) {
                Value v = values.make();
                v.place = at < scanner.count ? scanner.places[at] : tape.length;
                v.name = label;
                v.form = kind(0);
                v.number = number();
                if (depth > 0) {
                    unended[depth - 1].add(v);
                } else {
                    root = v;
                }
                if (v.form == '{' ? brace(v, depth) : begins(v, depth)) {
                    unended[depth] = v;
                    depth++;
                } else {
                    depth = ended(depth);
                }
                if (depth == 0) {
                    return root;
                }
            }
            return root;
        }

        /** True if others are to stand in it, false if it is whole. */
        private boolean begins(Value v, int depth) {
            switch (v.form) {
                case '-':
                    v.number = signed();
                    v.form = Scanner.NUMBER;
                    return false;
                case Scanner.ID:
                    at++;
                    if (kind(0) != ':') {
                        return false;
                    }
                    if (depth >= DEEPEST) {
                        fail();
                    }
                    at++;
                    label = (int) v.number;
                    v.form = Value.CHOSEN;
                    return true;
                case Scanner.STRING:
                    v.takeString(tape);
                    break;
                case Scanner.BITS:
                case Scanner.HEX:
                    v.takeDigits(tape, scanner);
                    break;
                default:
                    if (!canBegin(v.form)) {
                        fail();
                    }
                    break;
            }
            at++;
            return false;
        }

        private boolean brace(Value v, int depth) {
            if (depth >= DEEPEST) {
                fail();
            }
            at++;
            label = -1;
            if (take('}')) {
                v.form = Value.EMPTY;
                return false;
            }
            if (kind(0) == Scanner.ID && canBegin(kind(1))) {
                v.form = Value.PARTS;
                label = (int) need(Scanner.ID);
                return true;
            }
            if (kind(0) == Scanner.NUMBER && kind(1) == Scanner.NUMBER) {
                arcs(v);
                return false;
            }
            v.form = Value.LIST;
            return true;
        }

        /** { NUMBER NUMBER .. } is kept as the bytes that all codecs have for it. */
        private void arcs(Value v) {
            long first = need(Scanner.NUMBER);
            long second = need(Scanner.NUMBER);
            boolean good = first < 2 ? second < 40 : first == 2 && second < Long.MAX_VALUE - 79;
            v.form = good ? Value.ARCS : Scanner.BAD;
            Bytes data = values.data;
            v.from = data.length;
            data.putSevens(good ? 40 * first + second : 0);
            for (int i = 0; kind(0) == Scanner.NUMBER && i < scanner.count; i++) {
                data.putSevens(need(Scanner.NUMBER));
            }
            v.size = data.length - v.from;
            need('}');
        }

        private boolean canBegin(int token) {
            switch (token) {
                case Scanner.K_TRUE:
                case Scanner.K_FALSE:
                case Scanner.K_NULL:
                case Scanner.NUMBER:
                case Scanner.ID:
                case Scanner.BITS:
                case Scanner.HEX:
                case Scanner.STRING:
                case '-':
                case '{':
                    return true;
                default:
                    return false;
            }
        }

        /** Ends all that the VALUE behind us ends, up to one in which another VALUE must follow. */
        private int ended(int from) {
            for (int depth = from; depth > 0; depth--) {
                Value v = unended[depth - 1];
                label = -1;
                if (v.form != Value.CHOSEN) {
                    if (take(',')) {
                        label = v.form == Value.PARTS ? (int) need(Scanner.ID) : -1;
                        return depth;
                    }
                    need('}');
                }
            }
            return 0;
        }
    }

    /** A VALUE: as it is written first, then as one of its TYPE. */
    static final class Value {
        static final int CHOSEN = 256;
        static final int EMPTY = 257;
        static final int PARTS = 258;
        static final int LIST = 259;
        static final int ARCS = 260;

        final Values home;
        int form;
        int place;
        int name;
        Type type;
        Member member;
        Member item;
        long number;
        int from;
        int size;
        Value first;
        Value last;
        Value next;
        Value derFirst;
        Value derNext;
        long length;
        boolean dropped;

        Value(Values owner) {
            home = owner;
        }

        void clear() {
            form = 0;
            place = 0;
            name = -1;
            type = null;
            member = null;
            item = null;
            number = 0;
            from = 0;
            size = 0;
            first = null;
            last = null;
            next = null;
            derFirst = null;
            derNext = null;
            length = 0;
            dropped = false;
        }

        void add(Value v) {
            if (last == null) {
                first = v;
            } else {
                last.next = v;
            }
            last = v;
        }

        /** PARTS may come in any order, and stand in that of their TYPE. */
        void insert(Value v, Member m) {
            v.member = m;
            if (last == null || last.member == null || last.member.index < m.index) {
                add(v);
                return;
            }
            Value before = null;
            for (Value x = first; x != null && x.member != null && x.member.index < m.index; x = x.next) {
                before = x;
            }
            if (before == null) {
                v.next = first;
                first = v;
            } else {
                v.next = before.next;
                before.next = v;
            }
        }

        Value part(Member m) {
            for (Value v = first; v != null; v = v.next) {
                if (v.member == m && !v.dropped) {
                    return v;
                }
            }
            return null;
        }

        /** How many bits of the last byte are none. */
        int unused() {
            return -size & 7;
        }

        int bytes() {
            return type != null && type.base != null && type.base.kind == Type.BITS ? (size + 7) / 8 : size;
        }

        int data(int i) {
            return home.data.get(from + i);
        }

        /** The number of these two forms is the place of the last quote. */
        void takeString(Bytes tape) {
            from = home.data.length;
            for (int i = place + 1; i < number; i++) {
                home.data.put(tape.get(i));
                if (tape.get(i) == '"') {
                    i++;
                }
            }
            size = home.data.length - from;
        }

        void takeDigits(Bytes tape, Scanner scanner) {
            int width = form == Scanner.BITS ? 1 : 4;
            int piece = 0;
            from = home.data.length;
            size = 0;
            for (int i = scanner.blanks(place + 1); i < number; i = scanner.blanks(i + 1)) {
                piece = piece << width | Scanner.hexDigit(tape.get(i));
                size += width;
                if (size % 8 == 0) {
                    home.data.put(piece);
                }
            }
            if (size % 8 != 0) {
                home.data.put(piece << unused());
            }
        }
    }

    /** The VALUES of one call or TEXT: made again and again from the same objects, checked, PRINTED. */
    static final class Values {
        final ArrayList<Value> all;
        final Bytes data;
        int used;

        Values() {
            all = new ArrayList<>();
            data = new Bytes(64);
            used = 0;
        }

        void clear() {
            used = 0;
            data.length = 0;
        }

        Value make() {
            if (used >= all.size()) {
                all.add(new Value(this));
            }
            Value v = all.get(used);
            v.clear();
            used++;
            return v;
        }

        /** A VALUE of decoded bytes; depth is that of what it stands in. */
        Value begin(int depth) {
            if (depth >= DEEPEST) {
                throw new UnsupportedOperationException();
            }
            if (used >= LONGEST) {
                throw new IndexOutOfBoundsException();
            }
            return make();
        }

        /** The first VALUE that is found to be none of its TYPE, or null. */
        Value wrong(Value v, Type t) {
            v.type = t;
            Type b = t.base;
            switch (b.kind) {
                case Type.SEQUENCE:
                case Type.SET:
                    return wrongPart(v, b);
                case Type.SEQUENCE_OF:
                case Type.SET_OF:
                    return wrongElement(v, b);
                case Type.CHOICE:
                    return wrongChoice(v, b);
                default:
                    return isSimple(v, b) ? null : v;
            }
        }

        private boolean isSimple(Value v, Type b) {
            switch (b.kind) {
                case Type.BOOLEAN:
                    v.number = v.form == Scanner.K_TRUE ? 255 : 0;
                    return v.form == Scanner.K_TRUE || v.form == Scanner.K_FALSE;
                case Type.NULL:
                    return v.form == Scanner.K_NULL;
                case Type.INTEGER:
                    return v.form == Scanner.NUMBER && b.fits(v.number);
                case Type.OBJECT:
                    return v.form == Value.ARCS;
                case Type.ENUMERATED:
                    v.item = v.form == Scanner.ID ? b.named((int) v.number) : null;
                    v.number = v.item == null ? 0 : v.item.number;
                    return v.item != null;
                case Type.BITS:
                    return (v.form == Scanner.BITS || v.form == Scanner.HEX) && b.fits(v.size);
                case Type.OCTETS:
                    if (v.form != Scanner.BITS && v.form != Scanner.HEX || v.size % 8 != 0) {
                        return false;
                    }
                    v.size /= 8;
                    return b.fits(v.size);
                default:
                    return v.form == Scanner.STRING && isHeld(v, b);
            }
        }

        /** Whether SIZE and alphabet of a string's TYPE are kept. */
        boolean isHeld(Value v, Type b) {
            boolean text = b.kind != Type.BITS && b.kind != Type.OCTETS;
            for (int i = 0; text && i < v.size; i++) {
                if (!Type.allows(b.kind, v.data(i))) {
                    return false;
                }
            }
            return b.fits(v.size);
        }

        /** Whether the bytes are numbers below 2^63 in sevens. */
        boolean isArcs(Value v) {
            long n = 0;
            boolean ended = false;
            boolean fresh = true;
            for (int i = 0; i < v.size; i++) {
                int b = v.data(i);
                if (fresh && b == 128 || n > Long.MAX_VALUE >> 7) {
                    return false;
                }
                n = n << 7 | b & 127;
                fresh = b < 128;
                n = fresh ? 0 : n;
                ended = fresh;
            }
            return ended;
        }

        private Value wrongPart(Value v, Type b) {
            if (v.form != Value.EMPTY && v.form != Value.PARTS) {
                return v;
            }
            int next = 0;
            for (Value c = v.first; c != null; c = c.next) {
                c.member = b.partFrom(next, c.name);
                if (c.member == null) {
                    return v;
                }
                Value w = wrong(c, c.member.type);
                if (w != null) {
                    return w;
                }
                next = c.member.index + 1;
            }
            return b.mayEndAt(next) ? null : v;
        }

        private Value wrongElement(Value v, Type b) {
            if (v.form != Value.EMPTY && v.form != Value.LIST) {
                return v;
            }
            v.size = 0;
            for (Value c = v.first; c != null; c = c.next) {
                Value w = wrong(c, b.inner);
                if (w != null) {
                    return w;
                }
                v.size++;
            }
            return b.fits(v.size) ? null : v;
        }

        private Value wrongChoice(Value v, Type b) {
            Member m = v.form == Value.CHOSEN && v.first != null ? b.named(v.first.name) : null;
            if (m == null) {
                return v;
            }
            v.first.member = m;
            return wrong(v.first, m.type);
        }

        void print(Value root, Schema names, Bytes out) {
            out.length = 0;
            printOne(root, names, out);
        }

        private void printOne(Value v, Schema names, Bytes out) {
            Type b = v.type.base;
            switch (b.kind) {
                case Type.BOOLEAN:
                    printText(v.number == 0 ? "FALSE" : "TRUE", out);
                    break;
                case Type.NULL:
                    printText("NULL", out);
                    break;
                case Type.INTEGER:
                    printNumber(v.number, out);
                    break;
                case Type.ENUMERATED:
                    names.giveName(v.item == null ? -1 : v.item.name, out);
                    break;
                case Type.OBJECT:
                    printArcs(v, out);
                    break;
                case Type.BITS:
                case Type.OCTETS:
                    printDigits(v, b.kind == Type.BITS && v.size % 8 != 0, out);
                    break;
                case Type.SEQUENCE:
                case Type.SET:
                case Type.SEQUENCE_OF:
                case Type.SET_OF:
                case Type.CHOICE:
                    printWithin(v, b, names, out);
                    break;
                default:
                    printString(v, out);
                    break;
            }
        }

        private void printWithin(Value v, Type b, Schema names, Bytes out) {
            boolean braces = b.kind != Type.CHOICE;
            boolean comma = false;
            if (braces) {
                out.give('{');
            }
            for (Value c = v.first; c != null; c = c.next) {
                if (c.dropped) {
                    continue;
                }
                if (comma) {
                    printText(", ", out);
                }
                comma = true;
                if (c.member != null) {
                    names.giveName(c.member.name, out);
                    out.give(braces ? ' ' : ':');
                }
                printOne(c, names, out);
            }
            if (braces) {
                out.give('}');
            }
        }

        private void printText(String text, Bytes out) {
            for (int i = 0; i < text.length(); i++) {
                out.give(text.charAt(i));
            }
        }

        private void printNumber(long n, Bytes out) {
            if (n < 0) {
                out.give('-');
            }
            long power = 1;
            for (int i = 0; i < 18 && n / power / 10 != 0; i++) {
                power *= 10;
            }
            for (int i = 0; i <= 18 && power > 0; i++) {
                out.give('0' + (int) Math.abs(n / power % 10));
                power /= 10;
            }
        }

        private void printArcs(Value v, Bytes out) {
            boolean second = false;
            long n = 0;
            out.give('{');
            for (int i = 0; i < v.size; i++) {
                n = n << 7 | v.data(i) & 127;
                if (v.data(i) < 128) {
                    if (second) {
                        out.give(' ');
                    } else {
                        long first = Math.min(2, n / 40);
                        printNumber(first, out);
                        out.give(' ');
                        n -= 40 * first;
                    }
                    second = true;
                    printNumber(n, out);
                    n = 0;
                }
            }
            out.give('}');
        }

        private void printDigits(Value v, boolean binary, Bytes out) {
            int width = binary ? 1 : 4;
            int digits = binary ? v.size : 2 * v.bytes();
            out.give('\'');
            for (int i = 0; i < digits; i++) {
                int bit = i * width;
                int digit = v.data(bit / 8) >> 8 - width - bit % 8 & (1 << width) - 1;
                out.give(digit < 10 ? '0' + digit : 'A' + digit - 10);
            }
            out.give('\'');
            out.give(binary ? 'B' : 'H');
        }

        private void printString(Value v, Bytes out) {
            out.give('"');
            for (int i = 0; i < v.size; i++) {
                out.give(v.data(i));
                if (v.data(i) == '"') {
                    out.give('"');
                }
            }
            out.give('"');
        }
    }

    /** Lengths, order and bytes by DER. */
    static final class Der {
        private Value[] row;
        private Value[] merged;
        private int[] widths;

        Der() {
            row = new Value[16];
            merged = new Value[16];
            widths = new int[16];
        }

        static int lengthBytes(long n) {
            return n < 128 ? 1 : 1 + Bytes.eights(n);
        }

        /**
         * Works out lengths, the order in DER, and which PARTS are their DEFAULT. VALUES are made before
         * what stands in them, so the row is gone through from its end.
         */
        void settle(Values values, int from, int to) {
            for (int i = Math.min(to, values.used) - 1; i >= from; i--) {
                Value v = values.all.get(i);
                Type b = v.type.base;
                long contents;
                switch (b.kind) {
                    case Type.BOOLEAN:
                        contents = 1;
                        break;
                    case Type.NULL:
                        contents = 0;
                        break;
                    case Type.INTEGER:
                    case Type.ENUMERATED:
                        contents = Bytes.signedEights(v.number);
                        break;
                    case Type.BITS:
                        contents = 1 + v.bytes();
                        break;
                    case Type.SEQUENCE:
                    case Type.SET:
                    case Type.SEQUENCE_OF:
                    case Type.SET_OF:
                    case Type.CHOICE:
                        int n = gather(v);
                        if (b.kind == Type.SET || b.kind == Type.SET_OF) {
                            sort(n, b.kind == Type.SET);
                        }
                        contents = chain(v, n);
                        break;
                    default:
                        contents = v.size;
                        break;
                }
                v.length = wrapped(v.type, contents);
                Member m = v.member;
                v.dropped = m != null && m.standard != null && order(v, m.standard) == 0;
            }
        }

        /** TAGS are told from the outside, lengths grow from the inside. */
        private long wrapped(Type t, long contents) {
            int n = 0;
            for (Type cell = t.first >= 0 ? t : null; cell != null; cell = cell.rest) {
                if (n >= widths.length) {
                    widths = Arrays.copyOf(widths, 2 * n);
                }
                widths[n] = cell.identifierBytes;
                n++;
            }
            long length = contents;
            for (int i = n - 1; i >= 0; i--) {
                length += lengthBytes(length) + widths[i];
            }
            return length;
        }

        /** Puts what stands in a VALUE, but for DEFAULTS, in the row, and answers how many. */
        private int gather(Value v) {
            int n = 0;
            for (Value c = v.first; c != null; c = c.next) {
                if (!c.dropped) {
                    makeRoom(n + 1);
                    row[n] = c;
                    n++;
                }
            }
            return n;
        }

        private long chain(Value v, int n) {
            long sum = 0;
            v.derFirst = n > 0 ? row[0] : null;
            for (int i = 0; i < n; i++) {
                row[i].derNext = i + 1 < n ? row[i + 1] : null;
                sum += row[i].length;
            }
            return sum;
        }

        private void makeRoom(int n) {
            if (n > row.length) {
                Value[] longer = new Value[2 * n];
                System.arraycopy(row, 0, longer, 0, row.length);
                row = longer;
                merged = new Value[2 * n];
            }
        }

        private void sort(int n, boolean byTag) {
            for (int width = 1; width < n; width *= 2) {
                for (int from = 0; from < n; from += 2 * width) {
                    int half = Math.min(from + width, n);
                    int to = Math.min(half + width, n);
                    int i = from;
                    int k = half;
                    for (int at = from; at < to; at++) {
                        boolean left = k >= to || i < half && (byTag
                                ? outermost(row[i]).first <= outermost(row[k]).first
                                : order(row[i], row[k]) <= 0);
                        merged[at] = left ? row[i] : row[k];
                        i += left ? 1 : 0;
                        k += left ? 0 : 1;
                    }
                }
                Value[] sorted = merged;
                merged = row;
                row = sorted;
            }
        }

        /** A CHOICE without tag begins with what is chosen. */
        private Type outermost(Value start) {
            Value v = start;
            while (v.type.first < 0 && v.first != null) {
                v = v.first;
            }
            return v.type;
        }

        /** As the bytes of two VALUES of one TYPE compare; where identifiers agree, a shorter one is less. */
        private int order(Value a, Value b) {
            if (a.type.first >= 0 && a.length != b.length) {
                return Long.compare(a.length, b.length);
            }
            Type t = a.type.base;
            switch (t.kind) {
                case Type.NULL:
                    return 0;
                case Type.BOOLEAN:
                case Type.INTEGER:
                case Type.ENUMERATED:
                    return Long.compareUnsigned(a.number, b.number);
                case Type.SEQUENCE:
                case Type.SET:
                case Type.SEQUENCE_OF:
                case Type.SET_OF:
                case Type.CHOICE:
                    return orderWithin(a, b);
                default:
                    return orderData(a, b, t.kind == Type.BITS);
            }
        }

        private int orderData(Value a, Value b, boolean bits) {
            int c = bits ? Integer.compare(-a.size & 7, -b.size & 7) : 0;
            int n = bits ? (a.size + 7) / 8 : a.size;
            byte[] x = a.home.data.at;
            byte[] y = b.home.data.at;
            for (int i = 0; c == 0 && i < n && a.from + i < x.length && b.from + i < y.length; i++) {
                c = Integer.compare(x[a.from + i] & 255, y[b.from + i] & 255);
            }
            return c;
        }

        private int orderWithin(Value a, Value b) {
            Value x = a.derFirst;
            Value y = b.derFirst;
            while (x != null && y != null) {
                int c = x.member == y.member ? order(x, y)
                        : Long.compareUnsigned(outermost(x).identifier, outermost(y).identifier);
                if (c != 0) {
                    return c;
                }
                x = x.derNext;
                y = y.derNext;
            }
            return x != null ? 1 : y != null ? -1 : 0;
        }

        void write(Value root, Bytes out) {
            if (root.length > LONGEST) {
                throw new IndexOutOfBoundsException();
            }
            out.length = 0;
            writeOne(root, out);
        }

        private void writeOne(Value v, Bytes out) {
            Type t = v.type;
            long length = v.length;
            for (Type cell = t.first >= 0 ? t : null; cell != null; cell = cell.rest) {
                length = header(cell, length, out);
            }
            switch (t.base.kind) {
                case Type.BOOLEAN:
                case Type.INTEGER:
                case Type.ENUMERATED:
                    for (long i = length - 1; i >= 0 && i < 8; i--) {
                        out.give((int) (v.number >> 8 * i));
                    }
                    break;
                case Type.SEQUENCE:
                case Type.SET:
                case Type.SEQUENCE_OF:
                case Type.SET_OF:
                case Type.CHOICE:
                    for (Value c = v.derFirst; c != null; c = c.derNext) {
                        writeOne(c, out);
                    }
                    break;
                case Type.BITS:
                    out.give(v.unused());
                    writeData(v, out);
                    break;
                default:
                    writeData(v, out);
                    break;
            }
        }

        private void writeData(Value v, Bytes out) {
            for (int i = 0; i < v.bytes(); i++) {
                out.give(v.data(i));
            }
        }

        /** Answers the length of the contents; the given one is that of the whole. */
        private long header(Type cell, long whole, Bytes out) {
            for (int i = 0; i < cell.identifierBytes; i++) {
                out.give((int) (cell.identifier >> 56 - 8 * i));
            }
            long rest = whole - cell.identifierBytes;
            long length = rest - 1;
            for (int i = 0; i < 8 && lengthBytes(length) != rest - length; i++) {
                length--;
            }
            int bytes = lengthBytes(length) - 1;
            if (bytes > 0) {
                out.give(128 + bytes);
            }
            for (int i = Math.max(bytes, 1) - 1; i >= 0; i--) {
                out.give((int) (length >> 8 * i));
            }
            return length;
        }
    }

    /** Bytes by BER, or by DER, which is stricter. */
    static final class BerReader {
        private static final long FAR_TAG = 1L << 39;
        private static final long FAR_LENGTH = 1L << 40;
        private static final int INDEFINITE = -1;
        private static final int NONE = -2;

        private final Values values;
        private final Der order;
        private final int[] ends;
        private final int[] limits;
        private Bytes in;
        private Schema schema;
        private boolean strict;
        private int at;
        private long tag;
        private boolean constructed;
        private int stop;

        BerReader(Values target, Der ordering) {
            values = target;
            order = ordering;
            ends = new int[DEEPEST + 1];
            limits = new int[DEEPEST + 1];
        }

        Value all(Bytes bytes, Type t, Schema text, boolean der) {
            in = bytes;
            schema = text;
            strict = der;
            at = 0;
            ends[0] = bytes.length;
            limits[0] = bytes.length;
            values.clear();
            Value v = values.begin(0);
            fill(v, t, 0);
            insist(at == bytes.length);
            return v;
        }

        private void insist(boolean right) {
            if (!right) {
                throw new UnsupportedOperationException();
            }
        }

        private void identifier(int depth, int limit) {
            insist(depth < DEEPEST);
            int b = next(limit);
            constructed = (b & 32) != 0;
            tag = (long) (b >> 6) << 40 | ((b & 31) < 31 ? b & 31 : tagNumber(limit));
        }

        /** An identifier and a length: at is then where the contents begin, stop where they end. */
        private void header(int depth, int limit) {
            identifier(depth, limit);
            int n = next(limit);
            long length = n;
            if (n == 128) {
                insist(constructed && !strict);
                stop = INDEFINITE;
                return;
            }
            if (n > 128) {
                length = 0;
                insist(!strict || in.get(at) != 0);
                for (int i = 128; i < n; i++) {
                    length = Math.min(length << 8 | next(limit), FAR_LENGTH);
                }
                insist(!strict || length >= 128);
            }
            insist(length <= limit - at);
            stop = at + (int) length;
        }

        private int next(int limit) {
            if (at >= limit || at >= in.at.length) {
                throw new UnsupportedOperationException();
            }
            int b = in.at[at] & 255;
            at++;
            return b;
        }

        private long tagNumber(int limit) {
            long n = 0;
            int b = next(limit);
            insist(b != 128);
            for (int i = 0; b > 127 && i < LONGEST; i++) {
                n = Math.min(n << 7 | b & 127, FAR_TAG);
                b = next(limit);
            }
            n = Math.min(n << 7 | b & 127, FAR_TAG);
            insist(n >= 31);
            return n;
        }

        private long peek(int depth) {
            int here = at;
            identifier(depth, limits[depth]);
            at = here;
            return tag;
        }

        private int enter(int depth) {
            insist(constructed);
            ends[depth + 1] = stop;
            limits[depth + 1] = stop == INDEFINITE ? limits[depth] : stop;
            return depth + 1;
        }

        private boolean isEndMark(int limit) {
            return at + 1 < limit && in.get(at) == 0 && in.get(at + 1) == 0;
        }

        private boolean hasMore(int depth) {
            return ends[depth] == INDEFINITE ? !isEndMark(limits[depth]) : at < ends[depth];
        }

        private void leave(int depth) {
            if (ends[depth] == INDEFINITE) {
                insist(isEndMark(limits[depth]));
                at += 2;
            } else {
                insist(at == ends[depth]);
            }
        }

        /** What stands between marks is gone through by its headers alone. */
        private void passOver(int depth) {
            int limit = limits[depth];
            header(depth, limit);
            int level = stop == INDEFINITE ? 1 : 0;
            at = stop == INDEFINITE ? at : stop;
            for (int i = 0; level > 0 && i < LONGEST; i++) {
                if (isEndMark(limit)) {
                    at += 2;
                    level--;
                } else {
                    header(depth + level, limit);
                    level += stop == INDEFINITE ? 1 : 0;
                    at = stop == INDEFINITE ? at : stop;
                }
            }
        }

        private void fill(Value v, Type t, int depth) {
            v.type = t;
            Type b = t.base;
            boolean choice = b.kind == Type.CHOICE;
            int inside = depth;
            Type cell = t.first >= 0 ? t : null;
            while (cell != null && (choice || cell.rest != null)) {
                header(inside, limits[inside]);
                insist(tag == cell.first);
                inside = enter(inside);
                // Two bytes 0 end it here, even where they could be read as the VALUE in it.
                insist(hasMore(inside));
                cell = cell.rest;
            }
            if (choice) {
                insist(inside < DEEPEST);
                limits[inside + 1] = limits[inside];
                Member m = schema.alternative(b, peek(inside + 1));
                insist(m != null);
                Value c = values.begin(inside + 1);
                v.insert(c, m);
                fill(c, m.type, inside + 1);
            } else {
                header(inside, limits[inside]);
                insist(cell != null && tag == cell.first);
                contents(v, b, inside);
            }
            for (; inside > depth; inside--) {
                leave(inside);
            }
        }

        private void contents(Value v, Type b, int depth) {
            if (b.isConstructed()) {
                int inside = enter(depth);
                if (b.kind == Type.SEQUENCE) {
                    sequence(v, b, inside);
                } else if (b.kind == Type.SET) {
                    set(v, b, inside);
                } else {
                    list(v, b, inside);
                }
                leave(inside);
                return;
            }
            boolean string = b.kind != Type.BOOLEAN && b.kind != Type.INTEGER && b.kind != Type.ENUMERATED
                    && b.kind != Type.NULL && b.kind != Type.OBJECT;
            insist(!constructed || string && !strict);
            v.from = values.data.length;
            if (!string) {
                simple(v, b);
            } else {
                if (constructed) {
                    segments(v, b.kind == Type.BITS, depth);
                } else {
                    segment(v, b.kind == Type.BITS);
                }
                insist(values.isHeld(v, b));
            }
        }

        private void simple(Value v, Type b) {
            int n = stop - at;
            switch (b.kind) {
                case Type.NULL:
                    insist(n == 0);
                    break;
                case Type.BOOLEAN:
                    insist(n == 1);
                    v.number = next(stop);
                    insist(!strict || v.number == 0 || v.number == 255);
                    v.number = v.number == 0 ? 0 : 255;
                    break;
                case Type.OBJECT:
                    for (int i = 0; i < n; i++) {
                        values.data.put(next(stop));
                    }
                    v.size = n;
                    insist(values.isArcs(v));
                    break;
                default:
                    insist(n >= 1 && n <= 8);
                    v.number = (byte) next(stop);
                    for (int i = 1; i < n; i++) {
                        v.number = v.number << 8 | next(stop);
                    }
                    insist(Bytes.signedEights(v.number) == n);
                    v.item = b.kind == Type.ENUMERATED ? b.numbered(v.number) : null;
                    insist(b.kind == Type.ENUMERATED ? v.item != null : b.fits(v.number));
                    break;
            }
        }

        /** The contents of one that is not constructed go behind what the string has. */
        private void segment(Value v, boolean bits) {
            int unused = bits ? next(stop) : 0;
            int n = stop - at;
            insist(unused <= 7 && (unused == 0 || n > 0));
            for (int i = 1; i <= n; i++) {
                int b = next(stop);
                int none = i == n ? (1 << unused) - 1 : 0;
                insist(!strict || (b & none) == 0);
                values.data.put(b & ~none);
            }
            v.size += bits ? 8 * n - unused : n;
        }

        private void segments(Value v, boolean bits, int depth) {
            int inside = enter(depth);
            for (int i = 0; inside > depth && i < 2 * LONGEST; i++) {
                if (!hasMore(inside)) {
                    leave(inside);
                    inside--;
                    continue;
                }
                header(inside, limits[inside]);
                insist(tag == (bits ? Type.BITS : Type.OCTETS) && (!bits || v.size % 8 == 0));
                if (constructed) {
                    inside = enter(inside);
                } else {
                    segment(v, bits);
                }
            }
        }

        private void sequence(Value v, Type b, int depth) {
            boolean fresh = true;
            long found = NONE;
            for (int i = 0; i < b.size(); i++) {
                Member m = b.members.get(i);
                if (fresh) {
                    found = hasMore(depth) ? peek(depth) : NONE;
                }
                fresh = found >= 0 && schema.covers(m.type, found);
                if (fresh) {
                    int from = values.used;
                    Value c = values.begin(depth);
                    v.insert(c, m);
                    fill(c, m.type, depth);
                    refuseDefault(c, from);
                } else {
                    insist(!m.isRequired());
                }
            }
            for (int i = 0; i < LONGEST && hasMore(depth); i++) {
                insist(b.open);
                passOver(depth);
            }
        }

        private void set(Value v, Type b, int depth) {
            long before = NONE;
            int missing = 0;
            for (int i = 0; i < b.size(); i++) {
                missing += b.members.get(i).isRequired() ? 1 : 0;
            }
            for (int i = 0; i < LONGEST && hasMore(depth); i++) {
                long found = peek(depth);
                Member m = partOf(b, found);
                if (m == null) {
                    insist(b.open);
                    passOver(depth);
                    continue;
                }
                int from = values.used;
                Value c = values.begin(depth);
                insist(v.part(m) == null && (!strict || found > before));
                before = found;
                missing -= m.isRequired() ? 1 : 0;
                v.insert(c, m);
                fill(c, m.type, depth);
                refuseDefault(c, from);
            }
            insist(missing == 0);
        }

        private Member partOf(Type set, long found) {
            for (int i = 0; i < set.size(); i++) {
                if (schema.covers(set.members.get(i).type, found)) {
                    return set.members.get(i);
                }
            }
            return null;
        }

        private void refuseDefault(Value c, int from) {
            if (strict && c.member != null && c.member.standard != null) {
                order.settle(values, from, values.used);
                insist(!c.dropped);
            }
        }

        private void list(Value v, Type b, int depth) {
            int before = at;
            for (int i = 0; i < LONGEST && hasMore(depth); i++) {
                int from = at;
                Value c = values.begin(depth);
                v.add(c);
                fill(c, b.inner, depth);
                v.size++;
                insist(!strict || b.kind != Type.SET_OF || i == 0 || rises(before, from));
                before = from;
            }
            insist(b.fits(v.size));
        }

        /** Whether the element from there up to here is not less than the one before it. */
        private boolean rises(int before, int from) {
            for (int i = 0; i < from - before && i < at - from; i++) {
                int c = Integer.compare(in.get(before + i), in.get(from + i));
                if (c != 0) {
                    return c < 0;
                }
            }
            return true;
        }
    }

    /** Bits by PER. */
    static final class PerWriter {
        private static final int GAP = 8;
        private static final int MOST = LONGEST + 2048;

        private Bytes out;
        private int at;

        void write(Value root, Bytes target) {
            out = target;
            out.length = 0;
            at = 0;
            value(root);
            fillByte(0);
            out.length = at / 8;
            if (out.length > LONGEST) {
                throw new IndexOutOfBoundsException();
            }
        }

        /** Up to eights, one at least. */
        private void fillByte(int from) {
            bits(0, at == from ? 8 : -at & 7);
        }

        private void bits(long value, int n) {
            for (int left = n; left > 0;) {
                int i = at >> 3;
                if (i >= MOST) {
                    throw new IndexOutOfBoundsException();
                }
                if (i >= out.at.length) {
                    out.at = Arrays.copyOf(out.at, 2 * i + 16);
                }
                int free = 8 - (at & 7);
                int take = Math.min(free, left);
                int piece = (int) (value >>> left - take) & (1 << take) - 1;
                out.at[i] = (byte) ((free == 8 ? 0 : out.at[i]) | piece << free - take);
                at += take;
                left -= take;
            }
        }

        private void field(long n, long span) {
            bits(n, 64 - Long.numberOfLeadingZeros(span));
        }

        /** Answers how many go behind this LENGTH; after FRAGMENTS there is another one. */
        private int lengthOf(int left) {
            if (left < 128) {
                bits(left, 8);
                return left;
            }
            if (left < FRAGMENT) {
                bits(2 * FRAGMENT | left, 16);
                return left;
            }
            int k = Math.min(4, left / FRAGMENT);
            bits(192 | k, 8);
            return k * FRAGMENT;
        }

        private void small(long n) {
            if (n < 64) {
                bits(n, 7);
            } else {
                bits(1, 1);
                eights(n);
            }
        }

        private void eights(long n) {
            int bytes = Bytes.eights(n);
            lengthOf(bytes);
            bits(n, 8 * bytes);
        }

        private void value(Value v) {
            Type b = v.type.base;
            switch (b.kind) {
                case Type.NULL:
                    break;
                case Type.BOOLEAN:
                    bits(v.number, 1);
                    break;
                case Type.INTEGER:
                    integer(v.number, b);
                    break;
                case Type.ENUMERATED:
                    if (v.item != null) {
                        index(v.item, b);
                    }
                    break;
                case Type.SEQUENCE:
                case Type.SET:
                    parts(v, b);
                    break;
                case Type.SEQUENCE_OF:
                case Type.SET_OF:
                    list(v, b);
                    break;
                case Type.CHOICE:
                    if (v.first != null && v.first.member != null) {
                        index(v.first.member, b);
                        if (v.first.member.extension) {
                            whole(v.first);
                        } else {
                            value(v.first);
                        }
                    }
                    break;
                default:
                    string(v, b);
                    break;
            }
        }

        private void integer(long n, Type b) {
            boolean inside = b.within(n);
            if (b.open) {
                bits(inside ? 0 : 1, 1);
            }
            if (inside && b.floor && b.ceiling) {
                field(n - b.low, b.high - b.low);
            } else if (inside && b.floor) {
                eights(n - b.low);
            } else {
                int bytes = Bytes.signedEights(n);
                lengthOf(bytes);
                bits(n, 8 * bytes);
            }
        }

        /** Which ITEM or ALTERNATIVE. */
        private void index(Member m, Type b) {
            if (b.open) {
                bits(m.extension ? 1 : 0, 1);
            }
            if (m.extension) {
                small(m.index - b.roots);
            } else {
                field(m.rank, b.roots - 1);
            }
        }

        /** True if the number is told, and no LENGTH is to come. */
        private boolean tellsSize(int n, Type b) {
            boolean inside = b.within(n);
            if (b.open) {
                bits(inside ? 0 : 1, 1);
            }
            boolean field = inside && b.ceiling && b.high < LONGEST;
            if (field) {
                field(n - b.low, b.high - b.low);
            }
            return field;
        }

        private void string(Value v, Type b) {
            boolean told = b.kind != Type.OBJECT && tellsSize(v.size, b);
            int width = b.kind == Type.BITS ? 1 : b.kind == Type.NUMERIC ? 4
                    : b.kind == Type.OCTETS || b.kind == Type.UTF8 || b.kind == Type.OBJECT ? 8 : 7;
            int done = 0;
            boolean going = true;
            for (int turn = 0; going && turn < LONGEST; turn++) {
                int n = told ? v.size : lengthOf(v.size - done);
                going = !told && n >= FRAGMENT;
                for (int to = done + n; done < to; done++) {
                    bits(unit(v, b.kind, done), width);
                }
            }
        }

        private int unit(Value v, int kind, int i) {
            if (kind == Type.BITS) {
                return v.data(i / 8) >> 7 - i % 8;
            }
            int c = v.data(i);
            return kind != Type.NUMERIC ? c : c == ' ' ? 0 : c - '0' + 1;
        }

        private void list(Value v, Type b) {
            boolean told = tellsSize(v.size, b);
            int left = v.size;
            boolean going = true;
            Value c = v.first;
            for (int turn = 0; going && turn < LONGEST; turn++) {
                int n = told ? left : lengthOf(left);
                going = !told && n >= FRAGMENT;
                left -= n;
                for (; n > 0 && c != null; n--) {
                    value(c);
                    c = c.next;
                }
            }
        }

        private void parts(Value v, Type b) {
            boolean extended = false;
            for (Value c = v.first; c != null; c = c.next) {
                extended = extended || !c.dropped && c.member != null && c.member.extension;
            }
            if (b.open) {
                bits(extended ? 1 : 0, 1);
            }
            for (Member m : b.order) {
                if (m.isMarked()) {
                    bits(v.part(m) != null ? 1 : 0, 1);
                }
            }
            for (Member m : b.order) {
                Value c = v.part(m);
                if (c != null) {
                    value(c);
                }
            }
            if (extended) {
                extensionBits(v, b);
                for (Value c = v.first; c != null; c = c.next) {
                    if (!c.dropped && c.member != null && c.member.extension) {
                        whole(c);
                    }
                }
            }
        }

        private void extensionBits(Value v, Type b) {
            int n = b.size() - b.roots;
            boolean few = n <= 64;
            bits(few ? n - 1 : 1, few ? 7 : 1);
            int i = b.roots;
            boolean going = true;
            for (int turn = 0; going && turn < LONGEST; turn++) {
                int now = few ? n : lengthOf(b.size() - i);
                going = !few && now >= FRAGMENT;
                for (int to = i + now; i < to && i < b.size(); i++) {
                    bits(v.part(b.members.get(i)) != null ? 1 : 0, 1);
                }
            }
        }

        /** Its bytes are made behind a gap first, as they come behind a LENGTH that tells their number. */
        private void whole(Value v) {
            int start = at;
            int from = (start + 7) / 8 + GAP;
            at = 8 * from;
            value(v);
            fillByte(8 * from);
            int left = at / 8 - from;
            at = start;
            boolean going = true;
            for (int turn = 0; going && turn < LONGEST; turn++) {
                int n = lengthOf(left);
                going = n >= FRAGMENT;
                left -= n;
                for (; n > 0 && from < out.at.length; n--) {
                    bits(out.at[from], 8);
                    from++;
                }
            }
        }
    }

    /** Bits by PER, as PerWriter writes them. */
    static final class PerReader {
        private static final int BY_LENGTH = -1;
        private static final int OUTSIDE = -2;

        private final Values values;
        private Bytes in;
        private int at;
        private int limit;
        private int listed;
        private int strange;

        PerReader(Values target) {
            values = target;
        }

        Value all(Bytes bytes, Type t) {
            in = bytes;
            at = 0;
            limit = 8 * bytes.length;
            values.clear();
            Value v = values.begin(0);
            fill(v, t, 1);
            insist(Math.max(1, (at + 7) / 8) == bytes.length);
            return v;
        }

        private void insist(boolean right) {
            if (!right) {
                throw new UnsupportedOperationException();
            }
        }

        private long bits(int n) {
            if (n > limit - at || limit > 8 * in.at.length) {
                throw new UnsupportedOperationException();
            }
            long r = 0;
            for (int left = n; left > 0;) {
                int free = 8 - (at & 7);
                int take = Math.min(free, left);
                r = r << take | (in.at[at >> 3] & 255) >> free - take & (1 << take) - 1;
                at += take;
                left -= take;
            }
            return r;
        }

        private boolean bitAt(int i) {
            return (in.get(i >> 3) >> 7 - (i & 7) & 1) == 1;
        }

        private long field(long span) {
            long n = bits(64 - Long.numberOfLeadingZeros(span));
            insist(Long.compareUnsigned(n, span) <= 0);
            return n;
        }

        /** Behind FRAGMENTS (how many there were is before) another LENGTH follows, behind few of them a short one. */
        private int lengthAfter(int before) {
            if (bits(1) == 0) {
                return (int) bits(7);
            }
            if (bits(1) == 0) {
                int n = (int) bits(14);
                insist(n >= 128);
                return n;
            }
            int k = (int) bits(6);
            insist(k >= 1 && k <= 4 && (before == 0 || before == 4 * FRAGMENT));
            return k * FRAGMENT;
        }

        private long eights() {
            int bytes = lengthAfter(0);
            insist(bytes >= 1 && bytes <= 8);
            long n = bits(8 * bytes);
            insist(Bytes.eights(n) == bytes);
            return n;
        }

        private long small() {
            if (bits(1) == 0) {
                return bits(6);
            }
            long n = eights();
            insist(n < 0 || n >= 64);
            return n;
        }

        private void fill(Value v, Type t, int depth) {
            v.type = t;
            Type b = t.base;
            switch (b.kind) {
                case Type.NULL:
                    break;
                case Type.BOOLEAN:
                    v.number = bits(1) == 0 ? 0 : 255;
                    break;
                case Type.INTEGER:
                    v.number = integer(b);
                    break;
                case Type.ENUMERATED:
                    v.item = member(b);
                    v.number = v.item == null ? 0 : v.item.number;
                    break;
                case Type.SEQUENCE:
                case Type.SET:
                    parts(v, b, depth);
                    break;
                case Type.SEQUENCE_OF:
                case Type.SET_OF:
                    list(v, b, depth);
                    break;
                case Type.CHOICE:
                    Member m = member(b);
                    if (m != null && m.extension) {
                        whole(v, m, depth);
                    } else if (m != null) {
                        Value c = values.begin(depth);
                        v.insert(c, m);
                        fill(c, m.type, depth + 1);
                    }
                    break;
                default:
                    string(v, b);
                    break;
            }
        }

        private long integer(Type b) {
            boolean outside = b.open && bits(1) == 1;
            if (!outside && b.floor && b.ceiling) {
                return b.low + field(b.high - b.low);
            }
            if (!outside && b.floor) {
                long more = eights();
                insist(Long.compareUnsigned(more, Long.MAX_VALUE - b.low) <= 0);
                return b.low + more;
            }
            int bytes = lengthAfter(0);
            insist(bytes >= 1 && bytes <= 8);
            long n = bits(8 * bytes) << 64 - 8 * bytes >> 64 - 8 * bytes;
            insist(Bytes.signedEights(n) == bytes && b.within(n) != outside);
            return n;
        }

        /** The ITEM or ALTERNATIVE that is told. */
        private Member member(Type b) {
            if (b.open && bits(1) == 1) {
                long n = small();
                insist(n >= 0 && n < b.size() - b.roots);
                return b.members.get(b.roots + (int) n);
            }
            int n = (int) field(b.roots - 1);
            return n < b.order.length ? b.order[n] : null;
        }

        /** The number that SIZE tells, or how it is told. */
        private int size(Type b) {
            if (b.open && bits(1) == 1) {
                return OUTSIDE;
            }
            return b.ceiling && b.high < LONGEST ? (int) (b.low + field(b.high - b.low)) : BY_LENGTH;
        }

        private void string(Value v, Type b) {
            int told = b.kind == Type.OBJECT ? BY_LENGTH : size(b);
            int n = 0;
            v.from = values.data.length;
            boolean going = true;
            for (int turn = 0; going && turn < LONGEST; turn++) {
                n = told >= 0 ? told : lengthAfter(n);
                going = told < 0 && n >= FRAGMENT;
                units(b.kind, n);
                v.size += n;
            }
            insist(b.within(v.size) != (told == OUTSIDE));
            insist(b.kind == Type.OBJECT ? values.isArcs(v) : values.isHeld(v, b));
        }

        private void units(int kind, int n) {
            if (kind == Type.BITS) {
                for (int left = n; left > 0; left -= 8) {
                    int width = Math.min(8, left);
                    values.data.put((int) bits(width) << 8 - width);
                }
                return;
            }
            boolean eights = kind == Type.OCTETS || kind == Type.UTF8 || kind == Type.OBJECT;
            for (int i = 0; i < n; i++) {
                int c = (int) bits(eights ? 8 : kind == Type.NUMERIC ? 4 : 7);
                values.data.put(kind != Type.NUMERIC ? c : c == 0 ? ' ' : c + '0' - 1);
            }
        }

        private void list(Value v, Type b, int depth) {
            int told = size(b);
            int n = 0;
            boolean going = true;
            for (int turn = 0; going && turn < LONGEST; turn++) {
                n = told >= 0 ? told : lengthAfter(n);
                going = told < 0 && n >= FRAGMENT;
                for (int i = 0; i < n; i++) {
                    Value c = values.begin(depth);
                    v.add(c);
                    fill(c, b.inner, depth + 1);
                }
                v.size += n;
            }
            insist(b.within(v.size) != (told == OUTSIDE));
        }

        private void parts(Value v, Type b, int depth) {
            boolean extended = b.open && bits(1) == 1;
            int flag = at;
            for (Member m : b.order) {
                if (m.isMarked()) {
                    bits(1);
                }
            }
            for (Member m : b.order) {
                boolean there = true;
                if (m.isMarked()) {
                    there = bitAt(flag);
                    flag++;
                }
                if (there) {
                    Value c = values.begin(depth);
                    v.insert(c, m);
                    fill(c, m.type, depth + 1);
                }
            }
            if (extended) {
                int flags = extensionFlags(b);
                int known = Math.min(listed, b.size() - b.roots);
                int unknown = strange;
                for (int i = 0; i < known; i++) {
                    if (bitAt(flags + i)) {
                        whole(v, b.members.get(b.roots + i), depth);
                    }
                }
                for (int i = 0; i < unknown; i++) {
                    int bytes = wholeLength();
                    insistOnBytes(bytes);
                    at += 8 * bytes;
                }
            }
        }

        /** Answers where the bits of the known ones stand: never in more than the first FRAGMENTS. */
        private int extensionFlags(Type b) {
            boolean few = bits(1) == 0;
            boolean some = false;
            int flags = 0;
            int n = 0;
            listed = 0;
            strange = 0;
            boolean going = true;
            for (int turn = 0; going && turn < LONGEST; turn++) {
                n = few ? (int) bits(6) + 1 : lengthAfter(n);
                going = !few && n >= FRAGMENT;
                flags = listed == 0 ? at : flags;
                for (int i = 0; i < n; i++) {
                    boolean there = bits(1) == 1;
                    some = some || there;
                    strange += there && listed >= b.size() - b.roots ? 1 : 0;
                    listed++;
                }
            }
            insist(some && (few || listed > 64));
            return flags;
        }

        private int wholeLength() {
            int n = lengthAfter(0);
            insist(n >= 1);
            return n;
        }

        /** A whole one of more bytes than a LENGTH has without FRAGMENTS does not fit on what 512 calls feed. */
        private void insistOnBytes(int n) {
            insist(n < FRAGMENT && 8 * n <= limit - at);
        }

        /** Its LENGTH says that it has bytes, so it is begun, before it is seen whether they are all there. */
        private void whole(Value v, Member m, int depth) {
            int n = wholeLength();
            Value c = values.begin(depth);
            insistOnBytes(n);
            int start = at;
            int before = limit;
            limit = at + 8 * n;
            v.insert(c, m);
            fill(c, m.type, depth + 1);
            insist(Math.max(1, (at - start + 7) / 8) == n);
            at = limit;
            limit = before;
        }
    }
}
