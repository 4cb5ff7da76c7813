import java.util.ArrayList;
import java.util.List;
import java.util.Random;

/** Makes sound TEXTS at random, and VALUES of their TYPES. */
final class Maker {
    private final Random random;
    private final boolean automatic;
    private final List<Node> types = new ArrayList<>();

    /** A TYPE as text, and how to make VALUES of it. */
    static final class Node {
        String kind;
        String text;
        long low;
        long high;
        boolean open;
        List<String> ids = new ArrayList<>();
        List<Node> nodes = new ArrayList<>();
        List<String> marks = new ArrayList<>();
        int roots;
    }

    Maker(long seed) {
        random = new Random(seed);
        automatic = random.nextInt(3) > 0;
    }

    String module(int n) {
        StringBuilder text = new StringBuilder("M DEFINITIONS ");
        text.append(automatic ? "AUTOMATIC TAGS " : random.nextBoolean() ? "IMPLICIT TAGS " : "").append("::= BEGIN\n");
        for (int i = 0; i < n; i++) {
            Node node = node(3);
            types.add(node);
            text.append("T").append(i).append(" ::= ").append(node.text).append('\n');
        }
        return text + "END";
    }

    String value(int t) {
        return value(types.get(t), 4);
    }

    private Node node(int depth) {
        if (!types.isEmpty() && random.nextInt(6) == 0) {
            int i = random.nextInt(types.size());
            Node same = new Node();
            Node old = types.get(i);
            same.kind = old.kind;
            same.low = old.low;
            same.high = old.high;
            same.open = old.open;
            same.ids = old.ids;
            same.nodes = old.nodes;
            same.marks = old.marks;
            same.roots = old.roots;
            same.text = "T" + i;
            return same;
        }
        switch (random.nextInt(depth > 0 ? 16 : 10)) {
            case 0:
                return plain("BOOLEAN");
            case 1:
                return plain("NULL");
            case 2:
                return plain("OBJECT IDENTIFIER");
            case 3:
                return plain("UTF8String");
            case 4:
            case 5:
                return integer();
            case 6:
                return members("ENUMERATED", 0);
            case 7:
                return sized("BIT STRING");
            case 8:
                return sized("OCTET STRING");
            case 9:
                return sized(pick("PrintableString", "IA5String", "NumericString", "VisibleString"));
            case 10:
            case 11:
                return list(depth);
            case 12:
            case 13:
                return members("SEQUENCE", depth);
            case 14:
                return members("SET", depth);
            default:
                return members("CHOICE", depth);
        }
    }

    private String pick(String... all) {
        return all[random.nextInt(all.length)];
    }

    private Node plain(String kind) {
        Node n = new Node();
        n.kind = kind;
        n.text = kind;
        return n;
    }

    private Node integer() {
        Node n = plain("INTEGER");
        n.open = random.nextInt(3) == 0;
        n.low = random.nextInt(2000) - 1000;
        n.high = n.low + random.nextInt(3) * random.nextInt(100000);
        String more = n.open ? ", ...)" : ")";
        switch (random.nextInt(4)) {
            case 0:
                n.low = -(1L << 62);
                n.high = 1L << 62;
                break;
            case 1:
                n.high = 1L << 62;
                n.text += " (" + n.low + "..MAX" + more;
                break;
            case 2:
                n.low = -(1L << 62);
                n.text += " (MIN.." + n.high + more;
                break;
            default:
                n.text += " (" + n.low + ".." + n.high + more;
                break;
        }
        return n;
    }

    private void size(Node n) {
        n.low = random.nextInt(4);
        n.high = n.low + random.nextInt(4);
        n.open = random.nextInt(3) == 0;
    }

    private String sizeText(Node n) {
        return "SIZE (" + n.low + ".." + (random.nextInt(4) == 0 ? "MAX" : n.high) + (n.open ? ", ...)" : ")");
    }

    private Node sized(String kind) {
        Node n = plain(kind);
        n.high = 9;
        if (random.nextBoolean()) {
            size(n);
            n.text += " (" + sizeText(n) + ")";
        }
        return n;
    }

    private Node list(int depth) {
        Node n = plain(pick("SEQUENCE", "SET"));
        n.high = 3;
        if (random.nextBoolean()) {
            size(n);
            n.text += " " + sizeText(n);
        }
        Node inner = node(depth - 1);
        n.nodes.add(inner);
        n.text += " OF " + inner.text;
        n.kind = "OF";
        return n;
    }

    private Node members(String kind, int depth) {
        Node n = plain(kind);
        boolean parts = kind.startsWith("S");
        int size = random.nextInt(5) + (parts ? 0 : 1);
        n.open = random.nextBoolean();
        n.roots = n.open ? Math.max(parts ? 0 : 1, random.nextInt(size + 1)) : size;
        List<String> texts = new ArrayList<>();
        for (int i = 0; i < size; i++) {
            if (i == n.roots) {
                texts.add("...");
            }
            String id = "" + (char) ('a' + i) + (random.nextInt(4) == 0 ? "-x" + i : "");
            n.ids.add(id);
            n.marks.add("");
            if (kind.equals("ENUMERATED")) {
                texts.add(id);
                continue;
            }
            Node inner = node(depth - 1);
            n.nodes.add(inner);
            String text = id + " " + (automatic ? "" : "[" + (kind.equals("SEQUENCE") ? i : i * 7 % 5 + (i > 4 ? 9 : 0)) + "] ") + inner.text;
            if (parts && random.nextBoolean()) {
                n.marks.set(i, random.nextBoolean() ? "OPTIONAL" : "DEFAULT " + value(inner, 3));
                text += " " + n.marks.get(i);
            }
            texts.add(text);
        }
        if (n.open && n.roots == size) {
            texts.add("...");
        }
        n.text = kind + " {" + String.join(", ", texts) + "}";
        return n;
    }

    private long within(Node n) {
        if (n.open && random.nextInt(4) == 0) {
            return random.nextInt(12);
        }
        return n.low + (long) (random.nextDouble() * (n.high - n.low + 1));
    }

    private String value(Node n, int depth) {
        switch (n.kind) {
            case "BOOLEAN":
                return pick("TRUE", "FALSE");
            case "NULL":
                return "NULL";
            case "OBJECT IDENTIFIER":
                return "{" + pick("0 39", "1 0", "2 47", "2 48", "2 1000") + pick("", " 0", " 127 128", " 9223372036854775807") + "}";
            case "INTEGER":
                boolean all = n.low == -(1L << 62) && n.high == 1L << 62;
                return Long.toString(within(n) / (all ? 1L << random.nextInt(62) : 1));
            case "ENUMERATED":
                return n.ids.get(random.nextInt(n.ids.size()));
            case "OF":
                return list(n, depth);
            case "SEQUENCE":
            case "SET":
                return parts(n, depth);
            case "CHOICE":
                int i = random.nextInt(n.ids.size());
                return n.ids.get(i) + " : " + value(n.nodes.get(i), depth - 1);
            default:
                return string(n);
        }
    }

    private String list(Node n, int depth) {
        long size = within(n);
        List<String> texts = new ArrayList<>();
        for (int i = 0; i < size; i++) {
            texts.add(value(n.nodes.get(0), depth - 1));
        }
        return "{" + String.join(", ", texts) + "}";
    }

    private String parts(Node n, int depth) {
        List<String> texts = new ArrayList<>();
        for (int i = 0; i < n.ids.size(); i++) {
            boolean free = i >= n.roots || !n.marks.get(i).isEmpty();
            if (!free || random.nextBoolean()) {
                boolean same = n.marks.get(i).startsWith("DEFAULT") && random.nextBoolean();
                texts.add(n.ids.get(i) + " " + (same ? n.marks.get(i).substring(8) : value(n.nodes.get(i), depth - 1)));
            }
        }
        return "{" + String.join(", ", texts) + "}";
    }

    private String string(Node n) {
        StringBuilder text = new StringBuilder();
        long size = n.kind.equals("UTF8String") ? random.nextInt(5) : within(n);
        for (int i = 0; i < size; i++) {
            switch (n.kind) {
                case "BIT STRING":
                    text.append(random.nextInt(2));
                    break;
                case "OCTET STRING":
                    text.append(String.format("%02X", random.nextInt(256)));
                    break;
                case "NumericString":
                    text.append(pick(" ", "0", "5", "9"));
                    break;
                case "PrintableString":
                    text.append(pick("A", "z", "0", "'", "?", " "));
                    break;
                case "VisibleString":
                    text.append(pick("~", " ", "\"\"", "x"));
                    break;
                default:
                    text.append(pick("\u0001", "\u007f", "\"\"", "x", "\n"));
                    break;
            }
        }
        return n.kind.equals("BIT STRING") ? "'" + text + "'B" : n.kind.equals("OCTET STRING") ? "'" + text + "'H" : "\"" + text + "\"";
    }
}
