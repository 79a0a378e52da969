import java.nio.charset.StandardCharsets;
import java.util.Random;

/** Runs of calls on the class and on the model, side by side; every answer must be the same. */
public final class ModelTest {
    private static final int RUNS = 1500;
    private static final int CALLS = 300;

    private final Random random;
    private final int run;
    private final IceJudge x = new IceJudge();
    private final Model model = new Model();
    private final StringBuilder told = new StringBuilder();

    private ModelTest(int run) {
        this.run = run;
        this.random = new Random(run * 7919L + 17);
    }

    public static void main(String[] args) {
        int runs = args.length > 0 ? Integer.parseInt(args[0]) : RUNS;
        for (int run = 0; run < runs; run++) {
            new ModelTest(run).go();
        }
        Check.finish();
    }

    private void go() {
        for (int i = 0; i < CALLS; i++) {
            if (i == 3 || random.nextInt(40) == 0) {
                text();
            } else {
                step();
            }
        }
    }

    private void same(String call, Check.Call got, Check.Call want) {
        String due = Check.outcome(want);
        String answer = Check.outcome(got);
        if (!answer.equals(due)) {
            Check.report("run " + run + ": " + call + " answered " + answer + ", due is " + due + " of " + told);
        }
    }

    private void text() {
        String text = new ModelText(random).text();
        told.setLength(0);
        told.append(text.replace('\n', ' '));
        byte[] bytes = text.getBytes(StandardCharsets.ISO_8859_1);
        int[] five = new int[5];
        for (int from = 0; from < bytes.length; from += 20) {
            for (int i = 0; i < 20; i++) {
                five[i / 4] = five[i / 4] << 8 | (from + i < bytes.length ? bytes[from + i] & 255 : 0);
            }
            same("feed", () -> x.feed(five[0], five[1], five[2], five[3], five[4]), () -> model.feed(five));
        }
        same("end", () -> x.end(bytes.length) ? 1 : 0, () -> model.end(bytes.length) ? 1 : 0);
        same("read", x::read, model::read);
        same("fault", x::fault, model::fault);
    }

    /** Mostly a number that is one, at times one that is none. */
    private int some(int most) {
        int dice = random.nextInt(40);
        return dice == 0 ? -1 : dice == 1 ? most : dice == 2 ? random.nextInt() : random.nextInt(Math.max(1, most));
    }

    private int skater() {
        return some(model.skaters());
    }

    private int attempt(int skater) {
        return some(Math.max(1, model.count(20 + Math.max(0, Math.min(skater, 5)))));
    }

    private int judge() {
        return some(model.count(2));
    }

    private void step() {
        int s = skater();
        int k = attempt(s);
        int j = judge();
        int c = some(3);
        switch (random.nextInt(7)) {
            case 0: acts(s, k, j, c); break;
            case 1: acts(s, k, j, c); break;
            case 2: scores(s, k, j, c); break;
            case 3: scores(s, k, j, c); break;
            case 4: judges(s, j); break;
            case 5: couldBe(s, k, j); break;
            default: rest(); break;
        }
    }

    private void acts(int s, int k, int j, int c) {
        int grade = some(11) - 5;
        int mark = some(11);
        int e = some(model.count(0));
        int base = some(2001);
        int what = some(7);
        int v = what == 0 || what == 3 ? some(4) : what == 2 ? some(51) : some(301);
        boolean is = random.nextBoolean();
        switch (random.nextInt(8)) {
            case 0: same("tell " + s + " " + k + " " + j + " " + grade, () -> x.tell(s, k, j, grade), () -> model.tell(s, k, j, grade)); break;
            case 1: same("show " + s + " " + c + " " + j + " " + mark, () -> x.show(s, c, j, mark), () -> model.show(s, c, j, mark)); break;
            case 2: same("call " + s + " " + k + " " + c, () -> x.call(s, k, c, is) ? 1 : 0, () -> model.call(s, k, c, is) ? 1 : 0); break;
            case 3: same("base " + e + " " + base, () -> x.base(e, base), () -> model.base(e, base)); break;
            case 4: same("set " + what + " " + v, () -> x.set(what, v), () -> model.set(what, v)); break;
            case 5: {
                if (random.nextInt(3) == 0) {
                    same("scratch " + s + " " + k, () -> x.scratch(s, k), () -> model.scratch(s, k));
                }
                break;
            }
            default: same("undo", x::undo, model::undo); break;
        }
    }

    private void scores(int s, int k, int j, int c) {
        int what = some(11);
        int five = some(5);
        int r = some(model.count(10));
        switch (random.nextInt(12)) {
            case 0: case 1: case 2: same("attempt " + s + " " + k + " " + what, () -> x.attempt(s, k, what), () -> model.attempt(s, k, what)); break;
            case 3: same("grade " + s + " " + k + " " + j, () -> x.grade(s, k, j), () -> model.grade(s, k, j)); break;
            case 4: same("mean " + s + " " + k, () -> x.mean(s, k), () -> model.mean(s, k)); break;
            case 5: same("mark " + s + " " + c + " " + j, () -> x.mark(s, c, j), () -> model.mark(s, c, j)); break;
            case 6: same("component " + s + " " + c, () -> x.component(s, c), () -> model.component(s, c)); break;
            case 7: case 8: same("total " + s + " " + five, () -> x.total(s, five), () -> model.total(s, five)); break;
            case 9: same("rule " + s + " " + r, () -> x.rule(s, r), () -> model.rule(s, r)); break;
            case 10: same("rank " + s, () -> x.rank(s), () -> model.rank(s)); break;
            default: same("ranked " + s, () -> x.ranked(s), () -> model.ranked(s)); break;
        }
    }

    private void judges(int s, int j) {
        int seed = random.nextInt();
        int n = some(model.count(2) + 1);
        int panel = some(1 << model.count(2));
        switch (random.nextInt(11)) {
            case 0: same("bias " + j, () -> x.bias(j), () -> model.bias(j)); break;
            case 1: same("odd", x::odd, model::odd); break;
            case 2: same("without " + s + " " + j, () -> x.without(s, j), () -> model.without(s, j)); break;
            case 3: same("sways " + j, () -> x.sways(j), () -> model.sways(j)); break;
            case 4: same("alone " + s + " " + j, () -> x.alone(s, j), () -> model.alone(s, j)); break;
            case 5: same("place " + s + " " + j, () -> x.place(s, j), () -> model.place(s, j)); break;
            case 6: same("majority " + s, () -> x.majority(s), () -> model.majority(s)); break;
            case 7: same("major " + s, () -> x.major(s), () -> model.major(s)); break;
            case 8: same("panel " + seed + " " + n, () -> x.panel(seed, n), () -> model.panel(seed, n)); break;
            case 9: same("by " + s + " " + panel, () -> x.by(s, panel), () -> model.by(s, panel)); break;
            default: {
                // The model takes long for it.
                if (random.nextInt(4) == 0) {
                    same("firsts " + s + " " + n, () -> x.firsts(s, n), () -> model.firsts(s, n));
                }
                break;
            }
        }
    }

    private void couldBe(int s, int k, int j) {
        int other = skater();
        int n = some(13);
        int time = some(601);
        switch (random.nextInt(7)) {
            case 0: same("needed " + s + " " + other, () -> x.needed(s, other), () -> model.needed(s, other)); break;
            case 1: same("raise " + s + " " + k + " " + j, () -> x.raise(s, k, j), () -> model.raise(s, k, j)); break;
            case 2: same("prime " + s + " " + n, () -> x.prime(s, n), () -> model.prime(s, n)); break;
            case 3: same("led " + time, () -> x.led(time), () -> model.led(time)); break;
            case 4: same("doubt " + s, () -> x.doubt(s), () -> model.doubt(s)); break;
            case 5: same("clean " + s, () -> x.clean(s), () -> model.clean(s)); break;
            default: {
                same("write " + s, () -> x.write(s), () -> model.write(s));
                for (int i = -1; i <= model.count(12); i++) {
                    int at = i;
                    same("octet " + at, () -> x.octet(at), () -> model.octet(at));
                }
                break;
            }
        }
    }

    private void rest() {
        int what = some(26);
        int e = some(model.count(0));
        int s = skater();
        int letter = some(7);
        int two = some(2);
        switch (random.nextInt(5)) {
            case 0: case 1: same("count " + what, () -> x.count(what), () -> model.count(what)); break;
            case 2: same("name true " + s + " " + letter, () -> x.name(true, s, letter), () -> model.name(true, s, letter)); break;
            case 3: same("name false " + e + " " + letter, () -> x.name(false, e, letter), () -> model.name(false, e, letter)); break;
            default: same("element " + e + " " + two, () -> x.element(e, two), () -> model.element(e, two)); break;
        }
    }
}
