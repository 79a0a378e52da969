import java.util.NoSuchElementException;

/** Promises 17 to 23: what is told anew, and undone. */
public final class ActsTest {
    private static final int NONE = IceJudge.NONE;
    private static final Class<IndexOutOfBoundsException> INDEX = IndexOutOfBoundsException.class;
    private static final Class<IllegalArgumentException> ARGUMENT = IllegalArgumentException.class;
    private static final String TEXT = "judges 2;element a jump 100;element b spin 60;skater s;do a 1 fg;do b 2 hh under;"
            + "do a 3 ff;show bc de fg;skater t;";

    public static void main(String[] args) {
        grades();
        marks();
        calls();
        bases();
        settings();
        scratched();
        undone();
        sixteenAreKept();
        Check.finish();
    }

    private static void grades() {
        IceJudge x = Check.read(TEXT);
        Check.due("tell(0, 0, 1, 5)", 1, () -> x.tell(0, 0, 1, 5));
        Check.due("tell(0, 0, 1, -5)", 5, () -> x.tell(0, 0, 1, -5));
        Check.due("grade(0, 0, 1)", -5, () -> x.grade(0, 0, 1));
        Check.due("grade(0, 0, 0)", 0, () -> x.grade(0, 0, 0));
        Check.due("mean(0, 0)", -250, () -> x.mean(0, 0));
        Check.throwsDue("tell(0, 0, 1, 6)", ARGUMENT, () -> x.tell(0, 0, 1, 6));
        Check.throwsDue("tell(0, 0, 1, -6)", ARGUMENT, () -> x.tell(0, 0, 1, -6));
        Check.throwsDue("tell(0, 0, 2, 6)", INDEX, () -> x.tell(0, 0, 2, 6));
        Check.throwsDue("tell(0, 3, 0, 0)", INDEX, () -> x.tell(0, 3, 0, 0));
        Check.throwsDue("tell(2, 0, 0, 0)", INDEX, () -> x.tell(2, 0, 0, 0));
        Check.throwsDue("tell(1, 0, 0, 0)", INDEX, () -> x.tell(1, 0, 0, 0));
        Check.due("count(11)", 2, () -> x.count(11));
        Check.due("undo()", 1, x::undo);
        Check.due("grade(0, 0, 1) undone", 5, () -> x.grade(0, 0, 1));
        Check.due("undo()", 0, x::undo);
        Check.due("grade(0, 0, 1) undone twice", 1, () -> x.grade(0, 0, 1));
        Check.due("undo()", NONE, x::undo);
    }

    private static void marks() {
        IceJudge x = Check.read(TEXT);
        Check.due("show(0, 2, 1, 10)", 6, () -> x.show(0, 2, 1, 10));
        Check.due("show(0, 2, 1, 0)", 10, () -> x.show(0, 2, 1, 0));
        Check.due("mark(0, 2, 1)", 0, () -> x.mark(0, 2, 1));
        Check.due("show(1, 0, 0, 7)", 0, () -> x.show(1, 0, 0, 7));
        Check.due("component(1, 0)", 350, () -> x.component(1, 0));
        Check.due("component(0, 2)", 250, () -> x.component(0, 2));
        Check.throwsDue("show(0, 2, 1, 11)", ARGUMENT, () -> x.show(0, 2, 1, 11));
        Check.throwsDue("show(0, 2, 1, -1)", ARGUMENT, () -> x.show(0, 2, 1, -1));
        Check.throwsDue("show(0, 3, 1, 11)", INDEX, () -> x.show(0, 3, 1, 11));
        Check.throwsDue("show(0, 0, 2, 0)", INDEX, () -> x.show(0, 0, 2, 0));
        Check.throwsDue("show(-1, 0, 0, 0)", INDEX, () -> x.show(-1, 0, 0, 0));
        Check.due("undo()", 2, x::undo);
        Check.due("mark(1, 0, 0)", 0, () -> x.mark(1, 0, 0));
        Check.due("undo()", 1, x::undo);
        Check.due("mark(0, 2, 1)", 10, () -> x.mark(0, 2, 1));
    }

    private static void calls() {
        IceJudge x = Check.read(TEXT);
        Check.due("call(0, 0, 0, true)", 0, () -> x.call(0, 0, 0, true) ? 1 : 0);
        Check.due("call(0, 0, 0, true) again", 1, () -> x.call(0, 0, 0, true) ? 1 : 0);
        Check.due("call(0, 0, 2, true)", 0, () -> x.call(0, 0, 2, true) ? 1 : 0);
        Check.due("call(0, 0, 1, false)", 0, () -> x.call(0, 0, 1, false) ? 1 : 0);
        Check.due("calls", 5, () -> x.attempt(0, 0, 5));
        Check.due("worth", 80, () -> x.attempt(0, 0, 8));
        Check.due("call(0, 0, 0, false)", 1, () -> x.call(0, 0, 0, false) ? 1 : 0);
        Check.due("call(0, 0, 1, true)", 0, () -> x.call(0, 0, 1, true) ? 1 : 0);
        Check.due("calls", 6, () -> x.attempt(0, 0, 5));
        Check.due("worth", 70, () -> x.attempt(0, 0, 8));
        Check.due("falls", 1, () -> x.total(0, 2));
        Check.throwsDue("call(0, 0, 3, true)", ARGUMENT, () -> x.call(0, 0, 3, true) ? 1 : 0);
        Check.throwsDue("call(0, 0, -1, true)", ARGUMENT, () -> x.call(0, 0, -1, true) ? 1 : 0);
        Check.throwsDue("call(0, 3, 3, true)", INDEX, () -> x.call(0, 3, 3, true) ? 1 : 0);
        Check.throwsDue("call(2, 0, 0, true)", INDEX, () -> x.call(2, 0, 0, true) ? 1 : 0);
        Check.due("count(11)", 6, () -> x.count(11));
        Check.due("undo()", 5, x::undo);
        Check.due("undo()", 4, x::undo);
        Check.due("calls undone", 5, () -> x.attempt(0, 0, 5));
        Check.due("undo()", 3, x::undo);
        Check.due("undo()", 2, x::undo);
        Check.due("undo()", 1, x::undo);
        Check.due("calls undone", 1, () -> x.attempt(0, 0, 5));
        Check.due("undo()", 0, x::undo);
        Check.due("calls undone", 0, () -> x.attempt(0, 0, 5));
    }

    private static void bases() {
        IceJudge x = Check.read(TEXT);
        Check.due("base(1, 2000)", 60, () -> x.base(1, 2000));
        Check.due("base(1, 0)", 2000, () -> x.base(1, 0));
        Check.due("base(0, 10)", 100, () -> x.base(0, 10));
        Check.due("element(1, 0)", 0, () -> x.element(1, 0));
        Check.due("worth", 10, () -> x.attempt(0, 0, 8));
        Check.throwsDue("base(1, 2001)", ARGUMENT, () -> x.base(1, 2001));
        Check.throwsDue("base(1, -1)", ARGUMENT, () -> x.base(1, -1));
        Check.throwsDue("base(2, -1)", INDEX, () -> x.base(2, -1));
        Check.throwsDue("base(-1, 5)", INDEX, () -> x.base(-1, 5));
        Check.due("undo()", 2, x::undo);
        Check.due("undo()", 1, x::undo);
        Check.due("element(1, 0) undone", 2000, () -> x.element(1, 0));
        Check.due("element(0, 0) undone", 100, () -> x.element(0, 0));
    }

    private static void settings() {
        int[] first = {1, 120, 10, 2, 100, 100, 100};
        int[] least = {0, 0, 0, 1, 0, 0, 0};
        int[] most = {3, 600, 50, 3, 300, 300, 300};
        IceJudge x = new IceJudge();
        for (int i = 0; i < 7; i++) {
            int what = i;
            Check.due("set(" + i + ", least)", first[i], () -> x.set(what, least[what]));
            Check.due("count(" + (i + 3) + ")", least[i], () -> x.count(what + 3));
            Check.due("set(" + i + ", most)", least[i], () -> x.set(what, most[what]));
            Check.throwsDue("set(" + i + ", below)", ARGUMENT, () -> x.set(what, least[what] - 1));
            Check.throwsDue("set(" + i + ", above)", ARGUMENT, () -> x.set(what, most[what] + 1));
            Check.due("count(" + (i + 3) + ")", most[i], () -> x.count(what + 3));
        }
        Check.due("count(11)", 14, () -> x.count(11));
        Check.throwsDue("set(7, 0)", NoSuchElementException.class, () -> x.set(7, 0));
        Check.throwsDue("set(-1, -1)", NoSuchElementException.class, () -> x.set(-1, -1));
        for (int i = 13; i >= 0; i--) {
            Check.due("undo()", i, x::undo);
        }
        for (int i = 0; i < 7; i++) {
            int what = i;
            Check.due("count(" + (i + 3) + ") undone", first[i], () -> x.count(what + 3));
        }
        IceJudge y = Check.read(TEXT);
        y.set(1, 3);
        Check.due("late by another half", 1, () -> y.attempt(0, 2, 6));
        y.set(2, 50);
        Check.due("worth by another late", 150, () -> y.attempt(0, 2, 8));
        y.set(3, 1);
        Check.due("struck by another repeat", 1, () -> y.attempt(0, 2, 7));
        y.set(4, 200);
        Check.due("component by another factor", 300, () -> y.component(0, 0));
    }

    private static void scratched() {
        IceJudge x = Check.read("repeat 1;" + TEXT + "deduct tries;deduct jumps;deduct struck;");
        Check.due("struck ahead of it", 1, () -> x.attempt(0, 2, 7));
        Check.due("scratch(0, 0)", 2, () -> x.scratch(0, 0));
        Check.throwsDue("scratch(0, 0) again", INDEX, () -> x.scratch(0, 0));
        Check.throwsDue("attempt(0, 0, 0)", INDEX, () -> x.attempt(0, 0, 0));
        Check.throwsDue("grade(0, 0, 0)", INDEX, () -> x.grade(0, 0, 0));
        Check.throwsDue("mean(0, 0)", INDEX, () -> x.mean(0, 0));
        Check.throwsDue("tell(0, 0, 0, 9)", INDEX, () -> x.tell(0, 0, 0, 9));
        Check.throwsDue("call(0, 0, 9, true)", INDEX, () -> x.call(0, 0, 9, true) ? 1 : 0);
        Check.throwsDue("raise(0, 0, 0)", INDEX, () -> x.raise(0, 0, 0));
        Check.due("attempts keep their numbers", 3, () -> x.attempt(0, 2, 0));
        Check.due("struck no more", 0, () -> x.attempt(0, 2, 7));
        Check.due("count(20) with it", 3, () -> x.count(20));
        Check.due("tries", 2, () -> x.rule(0, 0));
        Check.due("jumps", 1, () -> x.rule(0, 1));
        Check.due("points", 48 + 12 + 100, () -> x.total(0, 0));
        Check.due("scratch(0, 2)", 1, () -> x.scratch(0, 2));
        Check.due("scratch(0, 1)", 0, () -> x.scratch(0, 1));
        Check.due("points of none", 0, () -> x.total(0, 0));
        Check.due("doubt(0)", NONE, () -> x.doubt(0));
        Check.throwsDue("scratch(0, 3)", INDEX, () -> x.scratch(0, 3));
        Check.throwsDue("scratch(0, -1)", INDEX, () -> x.scratch(0, -1));
        Check.throwsDue("scratch(1, 0)", INDEX, () -> x.scratch(1, 0));
        Check.throwsDue("scratch(2, 0)", INDEX, () -> x.scratch(2, 0));
        Check.due("undo()", 2, x::undo);
        Check.due("undo()", 1, x::undo);
        Check.due("undo()", 0, x::undo);
        Check.due("struck again", 1, () -> x.attempt(0, 2, 7));
        Check.due("grade again", 1, () -> x.grade(0, 0, 1));
    }

    private static void undone() {
        IceJudge x = Check.read(TEXT);
        x.tell(0, 0, 0, 3);
        x.set(0, 2);
        x.scratch(0, 0);
        x.base(0, 1);
        x.show(0, 0, 0, 9);
        x.call(0, 1, 0, false);
        Check.due("undo()", 5, x::undo);
        Check.due("under again", 1, () -> x.attempt(0, 1, 5));
        Check.due("undo()", 4, x::undo);
        Check.due("mark again", 1, () -> x.mark(0, 0, 0));
        x.set(6, 5);
        Check.due("count(11)", 5, () -> x.count(11));
        Check.due("undo()", 4, x::undo);
        Check.due("undo()", 3, x::undo);
        Check.due("base again", 100, () -> x.element(0, 0));
        Check.due("undo()", 2, x::undo);
        Check.due("told grade", 3, () -> x.grade(0, 0, 0));
        Check.due("undo()", 1, x::undo);
        Check.due("undo()", 0, x::undo);
        Check.due("grade again", 0, () -> x.grade(0, 0, 0));
        Check.due("undo()", NONE, x::undo);
    }

    private static void sixteenAreKept() {
        IceJudge x = Check.read(TEXT);
        for (int i = 0; i < 40; i++) {
            x.base(0, i);
        }
        Check.due("count(11)", 16, () -> x.count(11));
        for (int i = 15; i >= 0; i--) {
            Check.due("undo()", i, x::undo);
        }
        Check.due("undo()", NONE, x::undo);
        Check.due("element(0, 0)", 23, () -> x.element(0, 0));
        x.base(0, 23);
        Check.due("an act that changes nothing", 1, () -> x.count(11));
    }
}
