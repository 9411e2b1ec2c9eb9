import java.util.ArrayList;
import java.util.Collections;
import java.util.List;
import java.util.Random;

/** Makes texts of schemas that are like one another, so that versions fit now and then. */
final class Texts {
    private static final String[] WORDS = {"null", "boolean", "int", "long", "bytes", "string"};
    private static final String[] NAMES = {"R", "E", "F", "A", "B", "_x1", "Node"};
    private static final String[] PARTS = {"a", "b", "c", "d", "e_2", "next"};

    /** A schema's tree; a name that stands for one before it has of. */
    static final class Tree {
        String kind;
        String name;
        Tree of;
        Tree items;
        int size;
        final List<Tree> branches = new ArrayList<>();
        final List<String> symbols = new ArrayList<>();
        String standard;
        final List<String> fieldNames = new ArrayList<>();
        final List<Tree> fields = new ArrayList<>();
        final List<String> defaults = new ArrayList<>();
    }

    private final Random random;
    private List<Tree> named = new ArrayList<>();

    Texts(Random random) {
        this.random = random;
    }

    private boolean chance(int percent) {
        return random.nextInt(100) < percent;
    }

    private static <T> T any(Random random, T[] row) {
        return row[random.nextInt(row.length)];
    }

    Tree tree() {
        named = new ArrayList<>();
        return chance(70) ? record(0) : make(0, false);
    }

    private Tree make(int depth, boolean isBranch) {
        int dice = random.nextInt(depth > 4 ? 60 : 100);
        Tree t = new Tree();
        if (dice < 40) {
            t.kind = any(random, WORDS);
        } else if (dice < 60) {
            if (named.isEmpty()) {
                t.kind = any(random, WORDS);
                return t;
            }
            t.kind = "of";
            t.of = named.get(random.nextInt(named.size()));
        } else if (dice < 68) {
            t.kind = "array";
            t.items = make(depth + 1, false);
        } else if (dice < 74) {
            t.kind = "map";
            t.items = make(depth + 1, false);
        } else if (dice < 84 && (!isBranch || chance(3))) {
            t.kind = "union";
            int n = chance(3) ? random.nextInt(18) : 1 + random.nextInt(4);
            for (int i = 0; i < n; i++) {
                Tree branch = make(depth + 1, true);
                if (chance(4) || !hasLike(t, branch)) {
                    t.branches.add(branch);
                }
            }
        } else if (dice < 88) {
            t.kind = "fixed";
            name(t);
            t.size = chance(90) ? random.nextInt(4) : random.nextInt(66);
        } else if (dice < 94) {
            t.kind = "enum";
            name(t);
            symbols(t);
        } else {
            return record(depth);
        }
        return t;
    }

    private static boolean hasLike(Tree t, Tree branch) {
        Tree b = branch.of == null ? branch : branch.of;
        for (Tree other : t.branches) {
            Tree o = other.of == null ? other : other.of;
            if (o == b || o.name == null && o.kind.equals(b.kind)) {
                return true;
            }
        }
        return false;
    }

    private void name(Tree t) {
        t.name = any(random, NAMES);
        for (int i = 0; i < 20 && taken(t.name) && !chance(1); i++) {
            t.name = any(random, NAMES) + (chance(30) ? random.nextInt(3) : "");
        }
        named.add(t);
    }

    private boolean taken(String name) {
        for (Tree t : named) {
            if (t.name.equals(name)) {
                return true;
            }
        }
        return false;
    }

    private void symbols(Tree t) {
        List<String> all = new ArrayList<>(List.of("x", "y", "z", "u", "v_1"));
        Collections.shuffle(all, random);
        t.symbols.addAll(all.subList(0, 1 + random.nextInt(all.size())));
        if (chance(40)) {
            t.standard = chance(95) ? t.symbols.get(random.nextInt(t.symbols.size())) : "none";
        }
    }

    private Tree record(int depth) {
        Tree t = new Tree();
        t.kind = "record";
        name(t);
        int n = random.nextInt(depth == 0 ? 5 : 4);
        for (int i = 0; i < n; i++) {
            addField(t, depth);
        }
        return t;
    }

    private void addField(Tree t, int depth) {
        String name = any(random, PARTS);
        if (t.fieldNames.contains(name) && !chance(2)) {
            return;
        }
        Tree type = chance(8) && depth > 0 ? recursive(t) : make(depth + 1, false);
        t.fieldNames.add(name);
        t.fields.add(type);
        t.defaults.add(chance(65) ? value(type, 0) : null);
    }

    private static Tree recursive(Tree t) {
        Tree back = new Tree();
        back.kind = "of";
        back.of = t;
        Tree nothing = new Tree();
        nothing.kind = "null";
        Tree union = new Tree();
        union.kind = "union";
        union.branches.add(nothing);
        union.branches.add(back);
        return union;
    }

    /** The text of a value that fits, mostly. */
    private String value(Tree tree, int depth) {
        Tree t = tree.of == null ? tree : tree.of;
        if (chance(2) || depth > 8) {
            return any(random, new String[] {"null", "1", "\"x\"", "[]", "{}", "true", "-9223372036854775808"});
        }
        StringBuilder all = new StringBuilder();
        switch (t.kind) {
            case "null":
                return "null";
            case "boolean":
                return chance(50) ? "true" : "false";
            case "int":
                return Integer.toString(chance(60) ? random.nextInt(200) - 100 : random.nextInt());
            case "long":
                return chance(3) ? "9223372036854775807" : Long.toString(random.nextLong() >> random.nextInt(64));
            case "fixed":
                return "\"" + Lakes.repeat("q", t.size, "") + "\"";
            case "enum":
                return "\"" + t.symbols.get(random.nextInt(t.symbols.size())) + "\"";
            case "union":
                return t.branches.isEmpty() ? "0" : value(t.branches.get(0), depth + 1);
            case "array":
                for (int i = random.nextInt(4); i > 0; i--) {
                    all.append(all.length() == 0 ? "" : ",").append(value(t.items, depth + 1));
                }
                return "[" + all + "]";
            case "map":
                for (int i = random.nextInt(3); i > 0; i--) {
                    all.append(all.length() == 0 ? "" : ",").append("\"k" + i + "\":").append(value(t.items, depth + 1));
                }
                return "{" + all + "}";
            case "record":
                for (int i = 0; i < t.fields.size(); i++) {
                    if (!chance(2)) {
                        all.append(all.length() == 0 ? "" : ",").append("\"" + t.fieldNames.get(i) + "\":")
                                .append(value(t.fields.get(i), depth + 1));
                    }
                }
                return "{" + all + "}";
            default:
                return any(random, new String[] {"\"\"", "\"abc\"", "\"\\u00fF\\n\\/\"", "\"\\\"\\\\\""});
        }
    }

    /** A schema that has grown a little out of another one. */
    Tree grown(Tree t) {
        int times = 1 + random.nextInt(3);
        List<Tree> all = new ArrayList<>();
        collect(t, all, 0);
        named = new ArrayList<>();
        for (Tree one : all) {
            if (one.name != null && !named.contains(one)) {
                named.add(one);
            }
        }
        for (int i = 0; i < times; i++) {
            grow(all.get(random.nextInt(all.size())));
        }
        all.forEach(this::tellDefaultsAgain);
        return t;
    }

    /** What a schema has grown into wants other defaults, mostly. */
    private void tellDefaultsAgain(Tree t) {
        for (int i = 0; i < t.fields.size(); i++) {
            if (t.defaults.get(i) != null && chance(98)) {
                t.defaults.set(i, value(t.fields.get(i), 0));
            }
        }
    }

    private static void collect(Tree t, List<Tree> all, int depth) {
        if (all.contains(t) || depth > 30) {
            return;
        }
        all.add(t);
        if (t.items != null) {
            collect(t.items, all, depth + 1);
        }
        for (Tree b : t.branches) {
            collect(b, all, depth + 1);
        }
        for (Tree f : t.fields) {
            collect(f, all, depth + 1);
        }
    }

    private void grow(Tree t) {
        switch (t.kind) {
            case "int":
                t.kind = chance(60) ? "long" : "int";
                break;
            case "bytes":
                t.kind = "string";
                break;
            case "string":
                t.kind = "bytes";
                break;
            case "enum":
                Collections.shuffle(t.symbols, random);
                if (!t.symbols.contains("more") && chance(50)) {
                    t.symbols.add("more");
                }
                if (chance(30)) {
                    t.standard = t.symbols.get(0);
                }
                break;
            case "union":
                for (String word : WORDS) {
                    Tree branch = new Tree();
                    branch.kind = word;
                    if (chance(20) && !hasLike(t, branch)) {
                        t.branches.add(branch);
                    }
                }
                break;
            case "record":
                growRecord(t);
                break;
            default:
        }
    }

    private void growRecord(Tree t) {
        if (t.fields.isEmpty() || chance(50)) {
            addField(t, 2);
        } else if (chance(50)) {
            int i = random.nextInt(t.fields.size());
            t.fieldNames.remove(i);
            t.fields.remove(i);
            t.defaults.remove(i);
        } else {
            int i = random.nextInt(t.fields.size());
            t.fieldNames.add(t.fieldNames.remove(i));
            t.fields.add(t.fields.remove(i));
            t.defaults.add(t.defaults.remove(i));
        }
    }

    /** The tree as a text, with blanks and members that do not count here and there. */
    String text(Tree t) {
        List<Tree> stood = new ArrayList<>();
        return blank() + text(t, stood, 0) + blank();
    }

    private String blank() {
        return chance(4) ? any(random, new String[] {" ", "\t", "\r\n", "  "}) : "";
    }

    private String quoted(String s) {
        if (chance(2) && !s.isEmpty()) {
            return "\"" + String.format("\\u%04x", (int) s.charAt(0)) + s.substring(1) + "\"";
        }
        return "\"" + s + "\"";
    }

    private String object(List<String> members) {
        if (chance(5)) {
            members.add("\"doc\":[{},null,-0,\"\"]");
        }
        if (chance(10)) {
            Collections.shuffle(members, random);
        }
        StringBuilder all = new StringBuilder("{").append(blank());
        for (int i = 0; i < members.size(); i++) {
            all.append(i == 0 ? "" : "," + blank()).append(members.get(i)).append(blank());
        }
        return all.append("}").toString();
    }

    private String text(Tree t, List<Tree> stood, int depth) {
        Tree of = t.of == null ? t : t.of;
        if (of.name != null && stood.contains(of)) {
            return chance(10) ? "{\"type\":" + quoted(of.name) + "}" : quoted(of.name);
        }
        stood.add(of);
        List<String> members = new ArrayList<>();
        switch (of.kind) {
            case "array":
                members.add("\"type\":\"array\"");
                members.add("\"items\":" + blank() + text(of.items, stood, depth + 1));
                return object(members);
            case "map":
                members.add("\"type\":\"map\"");
                members.add("\"values\"" + blank() + ":" + text(of.items, stood, depth + 1));
                return object(members);
            case "union":
                StringBuilder all = new StringBuilder("[").append(blank());
                for (Tree b : of.branches) {
                    all.append(all.length() == 1 ? "" : ",").append(text(b, stood, depth + 1)).append(blank());
                }
                return all.append("]").toString();
            case "fixed":
                members.add("\"type\":\"fixed\"");
                members.add("\"name\":" + quoted(of.name));
                members.add("\"size\":" + of.size);
                return object(members);
            case "enum":
                members.add("\"type\":\"enum\"");
                members.add("\"name\":" + quoted(of.name));
                members.add("\"symbols\":[\"" + String.join("\",\"", of.symbols) + "\"]");
                if (of.standard != null) {
                    members.add("\"default\":" + quoted(of.standard));
                }
                return object(members);
            case "record":
                members.add("\"type\":\"record\"");
                members.add("\"name\":" + quoted(of.name));
                members.add("\"fields\":[" + blank() + fields(of, stood, depth) + "]");
                return object(members);
            default:
                return chance(5) ? "{\"type\":" + quoted(of.kind) + "}" : quoted(of.kind);
        }
    }

    private String fields(Tree t, List<Tree> stood, int depth) {
        StringBuilder all = new StringBuilder();
        for (int i = 0; i < t.fields.size(); i++) {
            List<String> members = new ArrayList<>();
            members.add("\"name\":" + quoted(t.fieldNames.get(i)));
            members.add("\"type\":" + text(t.fields.get(i), stood, depth + 1));
            if (t.defaults.get(i) != null) {
                members.add("\"default\":" + t.defaults.get(i));
            }
            all.append(i == 0 ? "" : ",").append(object(members));
        }
        return all.toString();
    }

    /** Bytes with a few of them changed, lost or put in. */
    static byte[] spoilt(byte[] bytes, Random random, String likely) {
        byte[] all = bytes;
        for (int times = 1 + random.nextInt(2); times > 0 && all.length > 0; times--) {
            int at = random.nextInt(all.length);
            byte[] before = java.util.Arrays.copyOf(all, at);
            byte[] behind = java.util.Arrays.copyOfRange(all, at + 1, all.length);
            byte other = (byte) (random.nextInt(3) == 0 ? random.nextInt(256) : likely.charAt(random.nextInt(likely.length())));
            switch (random.nextInt(5)) {
                case 0:
                    all = Lakes.join(before, behind);
                    break;
                case 1:
                    all = before;
                    break;
                case 2:
                    all = Lakes.join(before, new byte[] {other, all[at]}, behind);
                    break;
                default:
                    all = Lakes.join(before, new byte[] {other}, behind);
            }
        }
        return all;
    }
}
