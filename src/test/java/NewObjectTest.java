import java.util.NoSuchElementException;

/** Promise 1: a new object has no elements, no skaters, five judges, all others as without. */
public final class NewObjectTest {
    private static final Class<IndexOutOfBoundsException> INDEX = IndexOutOfBoundsException.class;

    public static void main(String[] args) {
        counts();
        calls();
        Check.finish();
    }

    private static void counts() {
        int[] want = {0, 0, 5, 1, 120, 10, 2, 100, 100, 100, 0, 0, 0, -1, -1};
        IceJudge x = new IceJudge();
        for (int what = 0; what < want.length; what++) {
            int w = what;
            Check.due("count(" + what + ")", want[what], () -> x.count(w));
        }
        Check.due("fault()", -1, x::fault);
    }

    private static void calls() {
        IceJudge x = new IceJudge();
        Check.throwsDue("name(false, 0, 0)", INDEX, () -> x.name(false, 0, 0));
        Check.throwsDue("name(true, 0, 0)", INDEX, () -> x.name(true, 0, 0));
        Check.throwsDue("element(0, 9)", INDEX, () -> x.element(0, 9));
        Check.throwsDue("attempt(0, 0, 99)", INDEX, () -> x.attempt(0, 0, 99));
        Check.throwsDue("grade(0, 0, 0)", INDEX, () -> x.grade(0, 0, 0));
        Check.throwsDue("mean(0, 0)", INDEX, () -> x.mean(0, 0));
        Check.throwsDue("mark(0, 0, 0)", INDEX, () -> x.mark(0, 0, 0));
        Check.throwsDue("component(0, 0)", INDEX, () -> x.component(0, 0));
        Check.throwsDue("total(0, 9)", INDEX, () -> x.total(0, 9));
        Check.throwsDue("rule(0, 0)", INDEX, () -> x.rule(0, 0));
        Check.throwsDue("rank(0)", INDEX, () -> x.rank(0));
        Check.throwsDue("tell(0, 0, 0, 9)", INDEX, () -> x.tell(0, 0, 0, 9));
        Check.throwsDue("show(0, 0, 0, 99)", INDEX, () -> x.show(0, 0, 0, 99));
        Check.throwsDue("call(0, 0, 9, true)", INDEX, () -> x.call(0, 0, 9, true) ? 1 : 0);
        Check.throwsDue("base(0, -1)", INDEX, () -> x.base(0, -1));
        Check.throwsDue("scratch(0, 0)", INDEX, () -> x.scratch(0, 0));
        Check.throwsDue("alone(0, 0)", INDEX, () -> x.alone(0, 0));
        Check.throwsDue("place(0, 0)", INDEX, () -> x.place(0, 0));
        Check.throwsDue("majority(0)", INDEX, () -> x.majority(0));
        Check.throwsDue("by(0, 0)", INDEX, () -> x.by(0, 0));
        Check.throwsDue("firsts(0, 0)", INDEX, () -> x.firsts(0, 0));
        Check.throwsDue("needed(0, 0)", INDEX, () -> x.needed(0, 0));
        Check.throwsDue("raise(0, 0, 0)", INDEX, () -> x.raise(0, 0, 0));
        Check.throwsDue("prime(0, 13)", INDEX, () -> x.prime(0, 13));
        Check.throwsDue("doubt(0)", INDEX, () -> x.doubt(0));
        Check.throwsDue("clean(0)", INDEX, () -> x.clean(0));
        Check.throwsDue("write(0)", INDEX, () -> x.write(0));
        Check.throwsDue("set(-1, 9999)", NoSuchElementException.class, () -> x.set(-1, 9999));
        Check.due("ranked(0)", -1, () -> x.ranked(0));
        Check.due("major(0)", -1, () -> x.major(0));
        Check.due("led(600)", -1, () -> x.led(600));
        Check.due("bias(4)", 0, () -> x.bias(4));
        Check.due("odd()", 0, x::odd);
        Check.due("sways(4)", 0, () -> x.sways(4));
        Check.due("undo()", -1, x::undo);
        Check.due("octet(0)", -1, () -> x.octet(0));
        Check.due("read()", 0, x::read);
    }
}
