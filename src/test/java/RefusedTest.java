import java.util.NoSuchElementException;

/** Exceptions: which arguments each call refuses, which of several is thrown, and that nothing changes. */
public final class RefusedTest {
    private static final Class<IndexOutOfBoundsException> INDEX = IndexOutOfBoundsException.class;
    private static final Class<IllegalArgumentException> ARGUMENT = IllegalArgumentException.class;
    private static final Class<IllegalStateException> STATE = IllegalStateException.class;
    private static final Class<NoSuchElementException> NO_SUCH = NoSuchElementException.class;

    // Two elements, two judges, two skaters, three attempts (the second one is scratched) and one, two rules.
    private static final String TEXT = "judges 2;element a jump 100;element b spin 60;skater s;do a 1 fk;do b 2 hh;do a 3 ff;"
            + "show bc de fg;skater t;do b 4 aa;deduct 1;deduct time;";
    private static final int[] FAR = {-1, Integer.MIN_VALUE, Integer.MAX_VALUE, 100, 32, -32};

    interface Two {
        long of(IceJudge x, int v);
    }

    private static final class Refusal {
        final String what;
        final Class<? extends RuntimeException> thrown;
        final Check.Ask ask;

        Refusal(String what, Class<? extends RuntimeException> thrown, Check.Ask ask) {
            this.what = what;
            this.thrown = thrown;
            this.ask = ask;
        }
    }

    private static final java.util.List<Refusal> ALL = new java.util.ArrayList<>();

    public static void main(String[] args) {
        skaters();
        attempts();
        elements();
        judges();
        components();
        whats();
        numbers();
        states();
        severalAtOnce();
        for (Refusal refusal : ALL) {
            throwsAndChangesNothing(refusal);
        }
        lastOnesThatAre();
        readOfAWrongText();
        refusedWithoutThrowing();
        Check.finish();
    }

    private static void add(String what, Class<? extends RuntimeException> thrown, Check.Ask ask) {
        ALL.add(new Refusal(what, thrown, ask));
    }

    private static void each(String what, Class<? extends RuntimeException> thrown, int beyond, Two call) {
        add(what + " with " + beyond, thrown, x -> call.of(x, beyond));
        for (int far : FAR) {
            add(what + " with " + far, thrown, x -> call.of(x, far));
        }
    }

    private static IceJudge made() {
        IceJudge x = Check.read(TEXT);
        x.scratch(0, 1);
        x.tell(0, 0, 0, 2);
        x.write(0);
        x.feed(1, 2, 3, 4, 5);
        return x;
    }

    private static void throwsAndChangesNothing(Refusal refusal) {
        Check.says("a call that throws changes nothing");
        IceJudge x = made();
        String before = State.of(x);
        Check.throwsDue(refusal.what, refusal.thrown, () -> refusal.ask.of(x));
        State.same("all behind " + refusal.what, x, before);
        Check.due("undo() behind " + refusal.what, 1, x::undo);
        Check.due("the grade behind undo()", 0, () -> x.grade(0, 0, 0));
        Check.due("undo() behind " + refusal.what, 0, x::undo);
        Check.due("the attempt behind undo()", 2, () -> x.attempt(0, 1, 0));
    }

    private static void skaters() {
        each("name(true, v, 0)", INDEX, 2, (x, v) -> x.name(true, v, 0));
        each("attempt(v, 0, 0)", INDEX, 2, (x, v) -> x.attempt(v, 0, 0));
        each("grade(v, 0, 0)", INDEX, 2, (x, v) -> x.grade(v, 0, 0));
        each("mean(v, 0)", INDEX, 2, (x, v) -> x.mean(v, 0));
        each("mark(v, 0, 0)", INDEX, 2, (x, v) -> x.mark(v, 0, 0));
        each("component(v, 0)", INDEX, 2, (x, v) -> x.component(v, 0));
        each("total(v, 0)", INDEX, 2, (x, v) -> x.total(v, 0));
        each("rule(v, 0)", INDEX, 2, (x, v) -> x.rule(v, 0));
        each("rank(v)", INDEX, 2, (x, v) -> x.rank(v));
        each("tell(v, 0, 0, 0)", INDEX, 2, (x, v) -> x.tell(v, 0, 0, 0));
        each("show(v, 0, 0, 0)", INDEX, 2, (x, v) -> x.show(v, 0, 0, 0));
        each("call(v, 0, 0, true)", INDEX, 2, (x, v) -> Check.truth(x.call(v, 0, 0, true)));
        each("scratch(v, 0)", INDEX, 2, (x, v) -> x.scratch(v, 0));
        each("without(v, 0)", INDEX, 2, (x, v) -> x.without(v, 0));
        each("alone(v, 0)", INDEX, 2, (x, v) -> x.alone(v, 0));
        each("place(v, 0)", INDEX, 2, (x, v) -> x.place(v, 0));
        each("majority(v)", INDEX, 2, (x, v) -> x.majority(v));
        each("by(v, 1)", INDEX, 2, (x, v) -> x.by(v, 1));
        each("firsts(v, 1)", INDEX, 2, (x, v) -> x.firsts(v, 1));
        each("needed(v, 0)", INDEX, 2, (x, v) -> x.needed(v, 0));
        each("needed(0, v)", INDEX, 2, (x, v) -> x.needed(0, v));
        each("raise(v, 0, 0)", INDEX, 2, (x, v) -> x.raise(v, 0, 0));
        each("prime(v, 0)", INDEX, 2, (x, v) -> x.prime(v, 0));
        each("doubt(v)", INDEX, 2, (x, v) -> x.doubt(v));
        each("clean(v)", INDEX, 2, (x, v) -> x.clean(v));
        each("write(v)", INDEX, 2, (x, v) -> x.write(v));
    }

    /** Both behind the last one and, with 1, one that is scratched. */
    private static void attempts() {
        int[] none = {3, 1};
        for (int k : none) {
            each("attempt(0, v, 0)", INDEX, k, (x, v) -> x.attempt(0, v, 0));
            each("grade(0, v, 0)", INDEX, k, (x, v) -> x.grade(0, v, 0));
            each("mean(0, v)", INDEX, k, (x, v) -> x.mean(0, v));
            each("tell(0, v, 0, 0)", INDEX, k, (x, v) -> x.tell(0, v, 0, 0));
            each("call(0, v, 0, true)", INDEX, k, (x, v) -> Check.truth(x.call(0, v, 0, true)));
            each("scratch(0, v)", INDEX, k, (x, v) -> x.scratch(0, v));
            each("raise(0, v, 0)", INDEX, k, (x, v) -> x.raise(0, v, 0));
        }
        each("attempt(1, v, 0)", INDEX, 1, (x, v) -> x.attempt(1, v, 0));
    }

    private static void elements() {
        each("name(false, v, 0)", INDEX, 2, (x, v) -> x.name(false, v, 0));
        each("element(v, 0)", INDEX, 2, (x, v) -> x.element(v, 0));
        each("base(v, 0)", INDEX, 2, (x, v) -> x.base(v, 0));
    }

    private static void judges() {
        each("grade(0, 0, v)", INDEX, 2, (x, v) -> x.grade(0, 0, v));
        each("mark(0, 0, v)", INDEX, 2, (x, v) -> x.mark(0, 0, v));
        each("tell(0, 0, v, 0)", INDEX, 2, (x, v) -> x.tell(0, 0, v, 0));
        each("show(0, 0, v, 0)", INDEX, 2, (x, v) -> x.show(0, 0, v, 0));
        each("bias(v)", INDEX, 2, (x, v) -> x.bias(v));
        each("without(0, v)", INDEX, 2, (x, v) -> x.without(0, v));
        each("sways(v)", INDEX, 2, (x, v) -> x.sways(v));
        each("alone(0, v)", INDEX, 2, (x, v) -> x.alone(0, v));
        each("place(0, v)", INDEX, 2, (x, v) -> x.place(0, v));
        each("raise(0, 0, v)", INDEX, 2, (x, v) -> x.raise(0, 0, v));
    }

    private static void components() {
        each("mark(0, v, 0)", INDEX, 3, (x, v) -> x.mark(0, v, 0));
        each("component(0, v)", INDEX, 3, (x, v) -> x.component(0, v));
        each("show(0, v, 0, 0)", INDEX, 3, (x, v) -> x.show(0, v, 0, 0));
    }

    private static void whats() {
        each("element(0, v)", NO_SUCH, 2, (x, v) -> x.element(0, v));
        each("attempt(0, 0, v)", NO_SUCH, 11, (x, v) -> x.attempt(0, 0, v));
        each("total(0, v)", NO_SUCH, 5, (x, v) -> x.total(0, v));
        each("rule(0, v)", NO_SUCH, 2, (x, v) -> x.rule(0, v));
        each("set(v, 1)", NO_SUCH, 7, (x, v) -> x.set(v, 1));
    }

    private static void numbers() {
        each("tell(0, 0, 0, v)", ARGUMENT, 6, (x, v) -> x.tell(0, 0, 0, v == -1 ? -6 : v));
        each("show(0, 0, 0, v)", ARGUMENT, 11, (x, v) -> x.show(0, 0, 0, v));
        each("call(0, 0, v, true)", ARGUMENT, 3, (x, v) -> Check.truth(x.call(0, 0, v, true)));
        each("call(0, 0, v, false)", ARGUMENT, 3, (x, v) -> Check.truth(x.call(0, 0, v, false)));
        add("base(0, -1)", ARGUMENT, x -> x.base(0, -1));
        add("base(0, 2001)", ARGUMENT, x -> x.base(0, 2001));
        int[] least = {0, 0, 0, 1, 0, 0, 0};
        int[] most = {3, 600, 50, 3, 300, 300, 300};
        for (int i = 0; i < 7; i++) {
            int what = i;
            add("set(" + i + ", below)", ARGUMENT, x -> x.set(what, least[what] - 1));
            add("set(" + i + ", above)", ARGUMENT, x -> x.set(what, most[what] + 1));
        }
        each("panel(5, v)", ARGUMENT, 3, (x, v) -> x.panel(5, v));
        each("panel(5, v)", ARGUMENT, 0, (x, v) -> x.panel(5, v));
        each("by(0, v)", ARGUMENT, 4, (x, v) -> x.by(0, v));
        each("by(0, v)", ARGUMENT, 0, (x, v) -> x.by(0, v));
        each("firsts(0, v)", ARGUMENT, 3, (x, v) -> x.firsts(0, v));
        each("firsts(0, v)", ARGUMENT, 0, (x, v) -> x.firsts(0, v));
        add("needed(0, 0)", ARGUMENT, x -> x.needed(0, 0));
        add("needed(1, 1)", ARGUMENT, x -> x.needed(1, 1));
        each("prime(0, v)", ARGUMENT, 13, (x, v) -> x.prime(0, v));
        add("led(-1)", ARGUMENT, x -> x.led(-1));
        add("led(601)", ARGUMENT, x -> x.led(601));
    }

    private static void states() {
        add("raise(0, 0, 1)", STATE, x -> x.raise(0, 0, 1));
    }

    /** Told first is thrown first, as the promise's head tells them. */
    private static void severalAtOnce() {
        add("element(2, 2)", INDEX, x -> x.element(2, 2));
        add("attempt(2, 0, 11)", INDEX, x -> x.attempt(2, 0, 11));
        add("attempt(0, 3, 11)", INDEX, x -> x.attempt(0, 3, 11));
        add("attempt(0, 1, -1)", INDEX, x -> x.attempt(0, 1, -1));
        add("total(2, 5)", INDEX, x -> x.total(2, 5));
        add("rule(2, 2)", INDEX, x -> x.rule(2, 2));
        add("tell(0, 0, 2, 6)", INDEX, x -> x.tell(0, 0, 2, 6));
        add("tell(0, 1, 0, 6)", INDEX, x -> x.tell(0, 1, 0, 6));
        add("tell(2, 0, 0, 6)", INDEX, x -> x.tell(2, 0, 0, 6));
        add("show(0, 3, 0, 11)", INDEX, x -> x.show(0, 3, 0, 11));
        add("show(0, 0, 2, 11)", INDEX, x -> x.show(0, 0, 2, 11));
        add("show(2, 0, 0, 11)", INDEX, x -> x.show(2, 0, 0, 11));
        add("call(0, 1, 3, true)", INDEX, x -> Check.truth(x.call(0, 1, 3, true)));
        add("call(2, 0, 3, true)", INDEX, x -> Check.truth(x.call(2, 0, 3, true)));
        add("base(2, 2001)", INDEX, x -> x.base(2, 2001));
        add("set(7, -1)", NO_SUCH, x -> x.set(7, -1));
        add("set(-1, 9999)", NO_SUCH, x -> x.set(-1, 9999));
        add("by(2, 0)", INDEX, x -> x.by(2, 0));
        add("firsts(2, 0)", INDEX, x -> x.firsts(2, 0));
        add("needed(2, 2)", INDEX, x -> x.needed(2, 2));
        add("needed(-1, -1)", INDEX, x -> x.needed(-1, -1));
        add("raise(0, 0, 2)", INDEX, x -> x.raise(0, 0, 2));
        add("prime(2, 13)", INDEX, x -> x.prime(2, 13));
    }

    private static void lastOnesThatAre() {
        Check.says("there is no such SKATER, ATTEMPT, ELEMENT, JUDGE, COMPONENT (0 to 2)");
        Check.asked(TEXT, "name(true, 1, 0)", 't', x -> x.name(true, 1, 0));
        Check.asked(TEXT, "name(false, 1, 0)", 'b', x -> x.name(false, 1, 0));
        Check.asked(TEXT, "element(1, 1)", 1, x -> x.element(1, 1));
        Check.asked(TEXT, "attempt(0, 2, 0)", 3, x -> x.attempt(0, 2, 0));
        Check.asked(TEXT, "attempt(1, 0, 10)", 30, x -> x.attempt(1, 0, 10));
        Check.asked(TEXT, "grade(0, 0, 1)", 5, x -> x.grade(0, 0, 1));
        Check.asked(TEXT, "grade(1, 0, 1)", -5, x -> x.grade(1, 0, 1));
        Check.asked(TEXT, "mean(0, 1)", 200, x -> x.mean(0, 1));
        Check.asked(TEXT, "mark(0, 2, 1)", 6, x -> x.mark(0, 2, 1));
        Check.asked(TEXT, "component(0, 2)", 550, x -> x.component(0, 2));
        Check.asked(TEXT, "total(1, 4)", 29, x -> x.total(1, 4));
        Check.asked(TEXT, "rule(1, 1)", 0, x -> x.rule(1, 1));
        Check.asked(TEXT, "rank(1)", 1, x -> x.rank(1));
        Check.asked(TEXT, "ranked(1)", 1, x -> x.ranked(1));
        Check.asked(TEXT, "ranked(2)", -1, x -> x.ranked(2));
        Check.asked(TEXT, "ranked(-1)", -1, x -> x.ranked(-1));
        Check.asked(TEXT, "ranked(MIN)", -1, x -> x.ranked(Integer.MIN_VALUE));
        Check.asked(TEXT, "ranked(MAX)", -1, x -> x.ranked(Integer.MAX_VALUE));
        Check.asked(TEXT, "major(2)", -1, x -> x.major(2));
        Check.asked(TEXT, "major(MIN)", -1, x -> x.major(Integer.MIN_VALUE));
        Check.asked(TEXT, "major(MAX)", -1, x -> x.major(Integer.MAX_VALUE));
        Check.asked(TEXT, "name(true, 1, 1)", -1, x -> x.name(true, 1, 1));
        Check.asked(TEXT, "name(true, 1, -1)", -1, x -> x.name(true, 1, -1));
        Check.asked(TEXT, "name(false, 1, MAX)", -1, x -> x.name(false, 1, Integer.MAX_VALUE));
        Check.asked(TEXT, "name(false, 1, MIN)", -1, x -> x.name(false, 1, Integer.MIN_VALUE));
        Check.asked(TEXT, "panel(5, 2)", 3, x -> x.panel(5, 2));
        Check.asked(TEXT, "by(1, 3)", 29, x -> x.by(1, 3));
    }

    private static void readOfAWrongText() {
        Check.says("a call that throws changes nothing but the TAPE, where it is used up, and fault(), where a text is read");
        IceJudge x = made();
        String before = State.of(x);
        Check.throwsDue("read() of five numbers", ARGUMENT, x::read);
        Check.due("the TAPE is used up", 0, () -> Check.taped(x));
        Check.due("fault()", 0, x::fault);
        State.same("all but these", x, before.replace("tape 20;", "tape 0;").replace("fault() -1;", "fault() 0;"));
        Check.due("feed behind it", 20, () -> x.feed(0, 0, 0, 0, 0));
        Check.due("undo()", 1, x::undo);
        Check.due("undo()", 0, x::undo);
    }

    private static void refusedWithoutThrowing() {
        Check.says("NONE, and none come; false, and nothing happens");
        IceJudge x = Check.read(TEXT);
        for (int i = 0; i < 30; i++) {
            x.feed(0x736b6174, 0x65722020, 0x20202020, 0x20202020, 0x20202020 + i);
        }
        x.end(581);
        String before = State.of(x);
        Check.due("feed behind 581", -1, () -> x.feed(0, 0, 0, 0, 0));
        int[] wrong = {582, 600, 601, -1, Integer.MIN_VALUE, Integer.MAX_VALUE};
        for (int n : wrong) {
            Check.due("end(" + n + ")", 0, () -> Check.truth(x.end(n)));
        }
        State.same("all", x, before);
        Check.due("end(580)", 1, () -> Check.truth(x.end(580)));
        Check.due("feed behind 580", 600, () -> x.feed(0, 0, 0, 0, 0));
        Check.due("end(0)", 1, () -> Check.truth(x.end(0)));
        Check.due("end(0)", 1, () -> Check.truth(x.end(0)));
        Check.due("end(1)", 0, () -> Check.truth(x.end(1)));
    }
}
