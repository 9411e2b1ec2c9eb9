import java.io.ByteArrayOutputStream;
import java.util.Random;

/** Runs of random calls, each held against what the model answers. All randomness comes from fixed seeds. */
public final class ModelTest {
    private static final String TEXT_BYTES = "{}[]\",:\\0123456789-truefalsnu \n\u007f\u0001";
    private static final String DATA_BYTES = "\u0000\u0001\u0002\u0003\u0004\u0080\u00ff\u007f\u0020";

    private final Random random;
    private final RecordLake lake = new RecordLake();
    private final Model model = new Model();
    private final Texts texts;
    private final Texts.Tree[] grown = new Texts.Tree[4];
    private final StringBuilder log = new StringBuilder();
    private final int[] answers;
    private boolean wrong;
    /** How many data may still be made at once. */
    private int left;

    private ModelTest(long seed, int[] answers) {
        random = new Random(seed);
        texts = new Texts(random);
        this.answers = answers;
    }

    public static void main(String[] args) {
        int runs = args.length > 0 ? Integer.parseInt(args[0]) : 400;
        long first = args.length > 1 ? Long.parseLong(args[1]) : 1;
        Check check = new Check();
        int[] answers = new int[200];
        for (long seed = first; seed < first + runs; seed++) {
            ModelTest run = new ModelTest(seed, answers);
            boolean same = run.run(250);
            check.yes("run " + seed, same);
            if (!same) {
                System.out.println(run.log);
            }
        }
        if (args.length > 0) {
            for (int i = 0; i < answers.length; i++) {
                if (answers[i] > 0) {
                    System.out.println("kind " + i / 50 + " answer -" + i % 50 + ": " + answers[i]);
                }
            }
        }
        check.finish("ModelTest");
    }

    private interface Call {
        long on();
    }

    private static String answer(Call call) {
        try {
            return Long.toString(call.on());
        } catch (IndexOutOfBoundsException | IllegalStateException | IllegalArgumentException e) {
            return e.getClass().getSimpleName();
        }
    }

    private long same(String name, Call got, Call due) {
        String a = answer(got);
        String b = answer(due);
        log.append(name).append(" -> ").append(a).append('\n');
        if (!a.equals(b)) {
            wrong = true;
            log.append("   DUE ").append(b).append('\n');
        }
        return a.matches("-?\\d+") ? Long.parseLong(a) : Long.MIN_VALUE;
    }

    private void tally(int kind, long answer) {
        if (answer < 0 && answer > -50) {
            answers[kind * 50 + (int) -answer]++;
        }
    }

    private boolean run(int calls) {
        for (int i = 0; i < calls && !wrong; i++) {
            one(random.nextInt(100));
            if (i % 10 == 9) {
                sameBytes();
            }
        }
        sameAll();
        return !wrong;
    }

    private int subject() {
        return random.nextInt(60) == 0 ? random.nextInt(2) * 5 - 1 : random.nextInt(random.nextInt(3) + 1);
    }

    private int version(int subject) {
        int n = subject < 0 || subject > 3 || model.down ? 1 : model.count(subject, 0);
        return random.nextInt(40) == 0 || n == 0 ? random.nextInt(4) - 1 : random.nextInt(n);
    }

    private void one(int dice) {
        int s = subject();
        int other = subject();
        int v = version(s);
        if (model.down && random.nextInt(4) == 0) {
            same("start", lake::start, model::start);
        }
        if (dice < 18) {
            text(s);
        } else if (dice < 42) {
            data(s, v, dice < 36);
        } else if (dice < 62) {
            int row = row(s);
            tally(2, same("read " + s + " " + v + " " + row, () -> lake.read(s, v, row), () -> model.read(s, v, row)));
            sameBytes();
        } else if (dice < 69) {
            int as = version(other);
            tally(3, same("copy " + s + " " + other + " " + as, () -> lake.copy(s, other, as), () -> model.copy(s, other, as)));
        } else if (dice < 76) {
            same("compact " + s, () -> lake.compact(s), () -> model.compact(s));
        } else if (dice < 78) {
            same("clear " + s, () -> lake.clear(s), () -> model.clear(s));
        } else if (dice < 84) {
            int as = version(other);
            same("fits " + s + v + other + as, () -> lake.fits(s, v, other, as) ? 1 : 0, () -> model.fits(s, v, other, as) ? 1 : 0);
        } else if (dice < 87) {
            power();
        } else {
            ask(s, v);
        }
        same("place", lake::place, () -> model.place);
    }

    private void power() {
        int n = random.nextInt(20) == 0 ? random.nextInt(2) * 1003 - 2 : random.nextInt(12) - 1;
        same("power " + n, () -> {
            lake.power(n);
            return 0;
        }, () -> {
            model.power(n);
            return 0;
        });
    }

    private int row(int s) {
        int n = s < 0 || s > 3 || model.down ? 0 : model.count(s, 2);
        return random.nextInt(30) == 0 || n == 0 ? random.nextInt(4) - 2 : random.nextInt(n);
    }

    private void ask(int s, int v) {
        int what = random.nextInt(7) - 1;
        int k = random.nextInt(44) - 2;
        same("count", () -> lake.count(s, what), () -> model.count(s, what));
        same("print", () -> lake.print(s, v), () -> model.print(s, v));
        same("size", () -> lake.size(what), () -> model.size(what));
        same("letter", () -> lake.letter(k, what), () -> model.letter(k, what));
        same("file", () -> lake.file(k, what), () -> model.file(k, what));
        same("files", lake::files, model::files);
        if (random.nextInt(10) == 0) {
            same("start", lake::start, model::start);
        }
    }

    private void tape(byte[] bytes) {
        byte[] cut = bytes.length > 4096 ? java.util.Arrays.copyOf(bytes, 4096) : bytes;
        same("end 0", () -> ended(0), () -> modelEnded(0));
        int odd = cut.length % 20;
        if (odd > 0) {
            feed(cut, 0);
            same("end", () -> ended(odd), () -> modelEnded(odd));
        }
        for (int i = odd; i < cut.length; i += 20) {
            feed(cut, i);
        }
    }

    private void feed(byte[] bytes, int from) {
        int[] n = new int[5];
        for (int j = 0; j < 20 && from + j < bytes.length; j++) {
            n[j / 4] |= (bytes[from + j] & 255) << 24 - 8 * (j % 4);
        }
        same("feed", () -> lake.feed(n[0], n[1], n[2], n[3], n[4]), () -> model.feed(n));
    }

    private long ended(int n) {
        lake.end(n);
        return 0;
    }

    private long modelEnded(int n) {
        model.end(n);
        return 0;
    }

    private void text(int s) {
        int of = Math.floorMod(s, 4);
        if (grown[of] == null || random.nextInt(12) == 0) {
            grown[of] = texts.tree();
        } else {
            grown[of] = texts.grown(grown[of]);
        }
        byte[] bytes = Lakes.bytes(texts.text(grown[of]));
        if (random.nextInt(5) == 0) {
            bytes = Texts.spoilt(bytes, random, TEXT_BYTES);
        }
        log.append("text ").append(new String(bytes, java.nio.charset.StandardCharsets.ISO_8859_1)).append('\n');
        tape(bytes);
        if (random.nextInt(3) == 0) {
            tally(0, -same("schema", lake::schema, model::schema));
            sameBytes();
        }
        tally(0, same("register " + s, () -> lake.register(s), () -> model.register(s)));
        sameBytes();
    }

    private void data(int s, int v, boolean load) {
        byte[] bytes = Lakes.bytes(0, 2, 4, 1);
        if (!model.down && s >= 0 && s < 4 && v >= 0 && v < model.count(s, 0)) {
            ByteArrayOutputStream all = new ByteArrayOutputStream();
            left = 6000;
            for (int n = random.nextInt(4); n >= 0; n--) {
                datum(model.version(s, v).schema, all, 0);
            }
            bytes = all.toByteArray();
        }
        if (random.nextInt(6) == 0) {
            bytes = Texts.spoilt(bytes, random, DATA_BYTES);
        }
        log.append("data ").append(Lakes.numbers(bytes.length > 300 ? java.util.Arrays.copyOf(bytes, 300) : bytes)).append('\n');
        tape(bytes);
        tally(1, load ? same("load " + s + v, () -> lake.load(s, v), () -> model.load(s, v))
                : same("look " + s + v, () -> lake.look(s, v), () -> model.look(s, v)));
        if (random.nextInt(20) == 0) {
            same("load again", () -> lake.load(s, v), () -> model.load(s, v));
        }
    }

    private void number(long v, ByteArrayOutputStream to) {
        byte[] bytes = Lakes.varint(v);
        if (random.nextInt(25) == 0 && bytes.length < 9) {
            bytes[bytes.length - 1] |= (byte) 128;
            to.writeBytes(bytes);
            to.write(random.nextInt(60) == 0 ? 128 : 0);
            return;
        }
        to.writeBytes(bytes);
    }

    /** A datum that is right, but for a few that are not. */
    private void datum(Model.Schema s, ByteArrayOutputStream to, int depth) {
        left--;
        if (left < 0 || depth > 40) {
            return;
        }
        switch (s.kind) {
            case "null":
                break;
            case "boolean":
                to.write(random.nextInt(2));
                break;
            case "int":
                number(random.nextInt() >> random.nextInt(32), to);
                break;
            case "long":
                number(random.nextLong() >> random.nextInt(64), to);
                break;
            case "bytes":
            case "string":
                string(to);
                break;
            case "fixed":
                to.writeBytes(Lakes.many(s.bytes, 'f'));
                break;
            case "enum":
                number(random.nextInt(s.symbols.size() + (random.nextInt(40) == 0 ? 1 : 0)), to);
                break;
            case "union":
                int branch = random.nextInt(s.branches.size());
                number(branch, to);
                datum(s.branches.get(branch), to, depth + 1);
                break;
            case "record":
                s.fields.forEach(f -> datum(f.schema, to, depth + 1));
                break;
            default:
                blocks(s, to, depth);
        }
    }

    private void string(ByteArrayOutputStream to) {
        int n = random.nextInt(50) == 0 ? random.nextInt(3000) : random.nextInt(6);
        number(n, to);
        to.writeBytes(Lakes.many(n, 's'));
    }

    private void blocks(Model.Schema s, ByteArrayOutputStream to, int depth) {
        for (int blocks = random.nextInt(3); blocks > 0; blocks--) {
            int n = random.nextInt(40) == 0 ? random.nextInt(2100) : 1 + random.nextInt(depth > 5 ? 1 : 3);
            ByteArrayOutputStream items = new ByteArrayOutputStream();
            for (int i = 0; i < n && left >= 0; i++) {
                if (s.is("map")) {
                    string(items);
                }
                datum(s.items, items, depth + 1);
            }
            if (random.nextInt(2) == 0) {
                number(-n, to);
                number(items.size() + (random.nextInt(40) == 0 ? 1 : 0), to);
            } else {
                number(n, to);
            }
            to.writeBytes(items.toByteArray());
        }
        number(0, to);
    }

    private void sameBytes() {
        for (int what = 0; what < 2; what++) {
            int of = what;
            same("size", () -> lake.size(of), () -> model.size(of));
            byte[] due = what == 0 ? model.plain : model.out;
            for (int i = 0; i < due.length && i < lake.size(what); i++) {
                if (lake.letter(i, what) != (due[i] & 255)) {
                    wrong = true;
                    log.append("   letter ").append(i).append(" of ").append(what).append(" is ").append(lake.letter(i, what))
                            .append(", DUE ").append(due[i] & 255).append('\n');
                    return;
                }
            }
        }
    }

    private void sameAll() {
        if (model.down) {
            same("start", lake::start, model::start);
        }
        same("files", lake::files, model::files);
        for (int k = 0; k < model.files.size(); k++) {
            for (int what = 0; what < 5; what++) {
                int of = k;
                int asked = what;
                same("file", () -> lake.file(of, asked), () -> model.file(of, asked));
            }
        }
        for (int s = 0; s < 4; s++) {
            int of = s;
            for (int i = 0; i < model.count(s, 2); i++) {
                int row = i;
                int v = random.nextInt(model.count(s, 0));
                same("read", () -> lake.read(of, v, row), () -> model.read(of, v, row));
                sameBytes();
            }
            for (int v = 0; v < model.count(s, 0); v++) {
                int version = v;
                same("print", () -> lake.print(of, version), () -> model.print(of, version));
            }
        }
    }
}
