import java.util.NoSuchElementException;

/** Promise 1: a new object has no elements, no skaters, five judges, all others as without. */
public final class NewObjectTest {
    private static final Class<IndexOutOfBoundsException> INDEX = IndexOutOfBoundsException.class;

    public static void main(String[] args) {
        counts();
        calls();
        firstCalls();
        Check.finish();
    }

    private static void counts() {
        int[] want = {0, 0, 5, 1, 120, 10, 2, 100, 100, 100, 0, 0, 0, -1, -1};
        IceJudge x = new IceJudge();
        for (int what = 0; what < want.length; what++) {
            int w = what;
            Check.due("count(" + what + ")", want[what], () -> x.count(w));
        }
        Check.due("fault()", -1, x::fault);
    }

    private static void calls() {
        IceJudge x = new IceJudge();
        Check.throwsDue("name(false, 0, 0)", INDEX, () -> x.name(false, 0, 0));
        Check.throwsDue("name(true, 0, 0)", INDEX, () -> x.name(true, 0, 0));
        Check.throwsDue("element(0, 9)", INDEX, () -> x.element(0, 9));
        Check.throwsDue("attempt(0, 0, 99)", INDEX, () -> x.attempt(0, 0, 99));
        Check.throwsDue("grade(0, 0, 0)", INDEX, () -> x.grade(0, 0, 0));
        Check.throwsDue("mean(0, 0)", INDEX, () -> x.mean(0, 0));
        Check.throwsDue("mark(0, 0, 0)", INDEX, () -> x.mark(0, 0, 0));
        Check.throwsDue("component(0, 0)", INDEX, () -> x.component(0, 0));
        Check.throwsDue("total(0, 9)", INDEX, () -> x.total(0, 9));
        Check.throwsDue("rule(0, 0)", INDEX, () -> x.rule(0, 0));
        Check.throwsDue("rank(0)", INDEX, () -> x.rank(0));
        Check.throwsDue("tell(0, 0, 0, 9)", INDEX, () -> x.tell(0, 0, 0, 9));
        Check.throwsDue("show(0, 0, 0, 99)", INDEX, () -> x.show(0, 0, 0, 99));
        Check.throwsDue("call(0, 0, 9, true)", INDEX, () -> x.call(0, 0, 9, true) ? 1 : 0);
        Check.throwsDue("base(0, -1)", INDEX, () -> x.base(0, -1));
        Check.throwsDue("scratch(0, 0)", INDEX, () -> x.scratch(0, 0));
        Check.throwsDue("alone(0, 0)", INDEX, () -> x.alone(0, 0));
        Check.throwsDue("place(0, 0)", INDEX, () -> x.place(0, 0));
        Check.throwsDue("majority(0)", INDEX, () -> x.majority(0));
        Check.throwsDue("by(0, 0)", INDEX, () -> x.by(0, 0));
        Check.throwsDue("firsts(0, 0)", INDEX, () -> x.firsts(0, 0));
        Check.throwsDue("needed(0, 0)", INDEX, () -> x.needed(0, 0));
        Check.throwsDue("raise(0, 0, 0)", INDEX, () -> x.raise(0, 0, 0));
        Check.throwsDue("prime(0, 13)", INDEX, () -> x.prime(0, 13));
        Check.throwsDue("doubt(0)", INDEX, () -> x.doubt(0));
        Check.throwsDue("clean(0)", INDEX, () -> x.clean(0));
        Check.throwsDue("write(0)", INDEX, () -> x.write(0));
        Check.throwsDue("set(-1, 9999)", NoSuchElementException.class, () -> x.set(-1, 9999));
        Check.due("ranked(0)", -1, () -> x.ranked(0));
        Check.due("major(0)", -1, () -> x.major(0));
        Check.due("led(600)", -1, () -> x.led(600));
        Check.due("bias(4)", 0, () -> x.bias(4));
        Check.due("odd()", 0, x::odd);
        Check.due("sways(4)", 0, () -> x.sways(4));
        Check.due("undo()", -1, x::undo);
        Check.due("octet(0)", -1, () -> x.octet(0));
        Check.due("read()", 0, x::read);
    }

    private static void fresh(String what, long want, Check.Ask ask) {
        IceJudge x = new IceJudge();
        Check.due(what + " as the first call", want, () -> ask.of(x));
    }

    private static void freshThrows(String what, Class<? extends RuntimeException> want, Check.Ask ask) {
        IceJudge x = new IceJudge();
        Check.throwsDue(what + " as the first call", want, () -> ask.of(x));
    }

    private static void firstCalls() {
        Check.says("At first there is none of all (5 JUDGES, all others as without)");
        fresh("feed(0, 0, 0, 0, 0)", 20, x -> x.feed(0, 0, 0, 0, 0));
        fresh("end(0)", 1, x -> Check.truth(x.end(0)));
        fresh("end(1)", 0, x -> Check.truth(x.end(1)));
        fresh("end(-1)", 0, x -> Check.truth(x.end(-1)));
        fresh("read()", 0, IceJudge::read);
        fresh("fault()", -1, IceJudge::fault);
        fresh("ranked(0)", -1, x -> x.ranked(0));
        fresh("undo()", -1, IceJudge::undo);
        fresh("bias(0)", 0, x -> x.bias(0));
        fresh("bias(4)", 0, x -> x.bias(4));
        freshThrows("bias(5)", INDEX, x -> x.bias(5));
        fresh("odd()", 0, IceJudge::odd);
        freshThrows("without(0, 0)", INDEX, x -> x.without(0, 0));
        fresh("sways(4)", 0, x -> x.sways(4));
        freshThrows("sways(5)", INDEX, x -> x.sways(5));
        fresh("major(0)", -1, x -> x.major(0));
        fresh("panel(0, 1)", 1, x -> x.panel(0, 1));
        fresh("panel(9, 5)", 31, x -> x.panel(9, 5));
        freshThrows("panel(9, 0)", IllegalArgumentException.class, x -> x.panel(9, 0));
        freshThrows("panel(9, 6)", IllegalArgumentException.class, x -> x.panel(9, 6));
        fresh("led(0)", -1, x -> x.led(0));
        freshThrows("led(601)", IllegalArgumentException.class, x -> x.led(601));
        fresh("octet(0)", -1, x -> x.octet(0));
        freshThrows("set(7, 0)", NoSuchElementException.class, x -> x.set(7, 0));
        freshThrows("set(3, 0)", IllegalArgumentException.class, x -> x.set(3, 0));
        int[] first = {1, 120, 10, 2, 100, 100, 100};
        for (int i = 0; i < first.length; i++) {
            int what = i;
            fresh("set(" + i + ", 1)", first[i], x -> x.set(what, 1));
        }
        for (int what = 20; what <= 25; what++) {
            int w = what;
            fresh("count(" + what + ")", -1, x -> x.count(w));
        }
    }
}
