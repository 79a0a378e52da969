import java.util.NoSuchElementException;

/** "Terms", 3, ACTS, with promises 17 to 23: sixteen are kept, each is one, all is as ahead of it. */
public final class ActBoundsTest {
    private static final int NONE = IceJudge.NONE;
    private static final Class<IndexOutOfBoundsException> INDEX = IndexOutOfBoundsException.class;
    private static final Class<IllegalArgumentException> ARGUMENT = IllegalArgumentException.class;
    private static final String TEXT = "judges 2;element a jump 100;element b spin 60;skater s;do a 1 fg edge;do b 2 hh;do a 3 ff;"
            + "show bc de fg;skater t;do b 4 aa;";
    private static final Check.Ask[] ACTS = {
        x -> x.tell(0, 0, 1, 4),
        x -> x.show(0, 2, 1, 9),
        x -> Check.truth(x.call(0, 0, 0, true)),
        x -> Check.truth(x.call(0, 0, 1, false)),
        x -> x.base(0, 50),
        x -> x.set(0, 2),
        x -> x.set(1, 2),
        x -> x.set(2, 20),
        x -> x.set(3, 1),
        x -> x.set(4, 50),
        x -> x.set(5, 60),
        x -> x.set(6, 70),
        x -> x.scratch(0, 1),
    };
    private static final Check.Ask[] CHANGE_NOTHING = {
        x -> x.tell(0, 0, 1, 1),
        x -> x.show(0, 2, 1, 6),
        x -> Check.truth(x.call(0, 0, 1, true)),
        x -> Check.truth(x.call(0, 0, 0, false)),
        x -> x.base(0, 100),
        x -> x.set(0, 1),
        x -> x.set(1, 120),
        x -> x.set(2, 10),
        x -> x.set(3, 2),
        x -> x.set(4, 100),
        x -> x.set(5, 100),
        x -> x.set(6, 100),
    };

    public static void main(String[] args) {
        newObject();
        eachIsOne();
        whereNothingChanges();
        sixteenAreKept();
        sixteenOfAllKinds();
        undoneOneByOne();
        actsBehindAnUndo();
        readForgets();
        readTakesThePlaceOfAll();
        rulesInPlaceOfLongerOnes();
        wrongReadKeeps();
        questionsAreNone();
        gradesTold();
        marksTold();
        callsTold();
        basesTold();
        settingsTold();
        scratched();
        scratchedIsNone();
        Check.finish();
    }

    private static void newObject() {
        Check.says("NONE: there was none");
        IceJudge x = new IceJudge();
        Check.due("undo()", NONE, x::undo);
        Check.due("count(11)", 0, () -> x.count(11));
        x.set(0, 3);
        Check.due("undo()", 0, x::undo);
        Check.due("undo()", NONE, x::undo);
        Check.due("undo()", NONE, x::undo);
        Check.due("count(3)", 1, () -> x.count(3));
    }

    private static void eachIsOne() {
        Check.says("ACTS: a grade, a MARK, a BASE is told, a CALL is told or taken back, DROP .. is told, an ATTEMPT is SCRATCHED");
        String before = State.of(Check.read(TEXT));
        for (int i = 0; i < ACTS.length; i++) {
            IceJudge x = Check.read(TEXT);
            ACTS[i].of(x);
            Check.due("count(11) behind act " + i, 1, () -> x.count(11));
            if (State.of(x).equals(before)) {
                Check.report("act " + i + " changed nothing");
            }
            Check.due("undo() of act " + i, 0, x::undo);
            State.same("act " + i + " undone", x, before);
            Check.due("undo() of none", NONE, x::undo);
        }
    }

    private static void whereNothingChanges() {
        Check.says("Each is one also where nothing changes");
        String before = State.of(Check.read(TEXT)).replace("count(11) 0", "count(11) 1");
        for (int i = 0; i < CHANGE_NOTHING.length; i++) {
            IceJudge x = Check.read(TEXT);
            CHANGE_NOTHING[i].of(x);
            State.same("act " + i + " that changes nothing", x, before);
            Check.due("undo()", 0, x::undo);
            Check.due("undo()", NONE, x::undo);
        }
    }

    private static void sixteenAreKept() {
        Check.says("the latest 16 are kept");
        for (int acts = 0; acts <= 50; acts++) {
            IceJudge x = Check.read(TEXT);
            int kept = Math.min(acts, 16);
            for (int i = 1; i <= acts; i++) {
                x.base(1, i);
            }
            Check.due("count(11) of " + acts, kept, () -> x.count(11));
            for (int i = kept - 1; i >= 0; i--) {
                Check.due("undo() of " + acts, i, x::undo);
            }
            Check.due("undo() of none", NONE, x::undo);
            Check.due("BASE ahead of the kept ones", acts <= 16 ? 60 : acts - 16, () -> x.element(1, 0));
        }
    }

    private static void sixteenOfAllKinds() {
        Check.says("the latest 16 are kept");
        for (int i = 0; i < ACTS.length; i++) {
            IceJudge x = Check.read(TEXT);
            IceJudge kept = Check.read(TEXT);
            ACTS[i].of(x);
            ACTS[i].of(kept);
            for (int k = 0; k < 15; k++) {
                x.base(1, k);
                kept.base(1, k);
            }
            x.base(1, 15);
            for (int k = 0; k < 16; k++) {
                x.undo();
                kept.undo();
            }
            State.same("act " + i + ", the 16th of 16", kept, State.of(Check.read(TEXT)));
            IceJudge act = Check.read(TEXT);
            ACTS[i].of(act);
            State.same("act " + i + ", the 17th of 17", x, State.of(act).replace("count(11) 1", "count(11) 0"));
        }
    }

    private static void undoneOneByOne() {
        Check.says("UNDONE: all that is as ahead of it");
        IceJudge x = Check.read(TEXT);
        String[] states = new String[ACTS.length];
        for (int i = 0; i < ACTS.length; i++) {
            states[i] = State.of(x);
            ACTS[i].of(x);
        }
        for (int i = ACTS.length - 1; i >= 0; i--) {
            Check.due("undo()", i, x::undo);
            State.same("all ahead of act " + i, x, states[i]);
        }
        Check.due("undo()", NONE, x::undo);
        State.same("all, where there is none to be undone", x, states[0]);
    }

    private static void actsBehindAnUndo() {
        Check.says("The latest ACT is UNDONE: how many can be");
        IceJudge x = Check.read(TEXT);
        for (int i = 1; i <= 20; i++) {
            x.base(1, i);
        }
        for (int i = 15; i >= 10; i--) {
            Check.due("undo()", i, x::undo);
        }
        Check.due("BASE", 14, () -> x.element(1, 0));
        for (int i = 101; i <= 105; i++) {
            x.base(1, i);
        }
        Check.due("count(11)", 15, () -> x.count(11));
        x.base(1, 106);
        Check.due("count(11)", 16, () -> x.count(11));
        x.base(1, 107);
        Check.due("count(11)", 16, () -> x.count(11));
        for (int i = 15; i >= 0; i--) {
            Check.due("undo()", i, x::undo);
            int base = i > 9 ? 100 + i - 9 : i == 9 ? 14 : 5 + i;
            Check.due("BASE", base, () -> x.element(1, 0));
        }
        Check.due("undo()", NONE, x::undo);
    }

    private static void readForgets() {
        Check.says("it is THE TEXT (in place of all; nothing can be undone)");
        IceJudge x = Check.read(TEXT);
        String before = State.of(x);
        for (Check.Ask act : ACTS) {
            act.of(x);
        }
        Check.put(x, TEXT);
        Check.due("read()", 2, x::read);
        State.same("the text read again", x, before);
        Check.due("undo()", NONE, x::undo);
        for (int i = 0; i < 3; i++) {
            for (Check.Ask act : ACTS) {
                act.of(x);
            }
            Check.put(x, TEXT);
            Check.due("read()", 2, x::read);
            State.same("the text read once more", x, before);
        }
        IceJudge y = Check.read(TEXT);
        Check.put(y, "");
        Check.due("read() of none", 0, y::read);
        State.same("none of all", y, State.of(new IceJudge()));
        Check.put(y, "");
        Check.due("read() of none", 0, y::read);
        State.same("none of all", y, State.of(new IceJudge()));
    }

    private static void readTakesThePlaceOfAll() {
        Check.says("it is THE TEXT (in place of all; nothing can be undone)");
        String much = "judges 9;drop 3;factor 1 2 3;half 4;late 5;repeat 3;deduct 1;deduct 2;deduct 3;deduct 4;deduct 5;deduct 6 if 1=2;"
                + "element a jump 5;element b spin 6;element c steps 7;skater p;lasts 9;do a+a+a 1 kkkkkkkkk under edge fall;"
                + "do b 2 kkkkkkkkk;show kkkkkkkkk kkkkkkkkk kkkkkkkkk;skater q;lasts 8;do a 3 kkkkkkkkk;show jjjjjjjjj kkkkkkkkk kkkkkkkkk;"
                + "skater r;lasts 7;show iiiiiiiii kkkkkkkkk kkkkkkkkk;skater t;skater u;skater v;";
        String little = "deduct time;element z spin 1;skater q;skater r;do z 1 fffff;do z 2 eeeee;skater s;";
        String muchOfNew = State.of(Check.read(much));
        String littleOfNew = State.of(Check.read(little));
        IceJudge x = new IceJudge();
        for (int i = 0; i < 4; i++) {
            for (int j = 0; j < 3 - i % 2; j++) {
                Check.put(x, much);
                Check.due("read() of much", 6, x::read);
                State.same("much in place of little", x, muchOfNew);
            }
            x.scratch(0, 0);
            x.set(5, 7);
            for (int j = 0; j < 3 - i / 2; j++) {
                Check.put(x, little);
                Check.due("read() of little", 3, x::read);
                State.same("little in place of much", x, littleOfNew);
            }
        }
    }

    private static void rulesInPlaceOfLongerOnes() {
        Check.says("it is THE TEXT (in place of all; nothing can be undone)");
        String[] texts = {"deduct 1+2*3-4+5 if 1<2 and 3>2;skater s;", "deduct 5;deduct 6;deduct 7;skater s;", "deduct 5;deduct 6;skater s;",
            "deduct 1+2;deduct 6 if 1=1;skater s;", "deduct 5;deduct 6;deduct 7;deduct 8;skater s;"};
        int[] want = {8, 18, 11, 9, 26};
        for (int before = 0; before < texts.length; before++) {
            for (int behind = 0; behind < texts.length; behind++) {
                IceJudge x = Check.read(texts[before]);
                for (int i = 0; i < 2; i++) {
                    Check.put(x, texts[behind]);
                    x.read();
                    Check.due("DEDUCTED of " + texts[behind] + " behind " + texts[before], want[behind], () -> x.total(0, 3));
                }
            }
        }
    }

    private static void wrongReadKeeps() {
        Check.says("a call that throws changes nothing but the TAPE, where it is used up, and fault(), where a text is read");
        IceJudge x = Check.read(TEXT);
        for (Check.Ask act : ACTS) {
            act.of(x);
        }
        String before = State.of(x);
        String wrong = "judges 9;drop 3;half 7;late 7;repeat 3;factor 7 7 7;deduct 7;element c spin 7;skater u;lasts 7;"
                + "do c 7 aaaaaaaaa fall;?";
        String fault = "fault() " + (wrong.length() - 1);
        Check.put(x, wrong);
        Check.throwsDue("read()", ARGUMENT, x::read);
        State.same("all but fault()", x, before.replace("fault() -1", fault));
        for (int i = ACTS.length - 1; i >= 0; i--) {
            Check.due("undo()", i, x::undo);
        }
        State.same("all undone", x, State.of(Check.read(TEXT)).replace("fault() -1", fault));
    }

    private static void questionsAreNone() {
        Check.says("ACTS (the latest 16 are kept): a grade, ..");
        IceJudge x = Check.read(TEXT);
        String before = State.of(x);
        x.raise(0, 0, 0);
        x.needed(0, 1);
        x.prime(0, 1);
        x.led(2);
        x.clean(0);
        x.without(0, 0);
        x.sways(0);
        x.place(1, 1);
        x.major(1);
        x.firsts(0, 1);
        x.panel(5, 1);
        State.same("all behind questions", x, before);
    }

    private static void gradesTold() {
        Check.says("A grade is told (-5 to 5): what it was. IllegalArgumentException: it is none");
        for (int grade = -5; grade <= 5; grade++) {
            int told = grade;
            IceJudge x = Check.read(TEXT);
            Check.due("tell(0, 0, 1, " + grade + ")", 1, () -> x.tell(0, 0, 1, told));
            Check.due("grade(0, 0, 1)", told, () -> x.grade(0, 0, 1));
            Check.due("tell(0, 0, 1, 0)", told, () -> x.tell(0, 0, 1, 0));
        }
        int[] wrong = {-6, 6, Integer.MIN_VALUE, Integer.MAX_VALUE};
        for (int grade : wrong) {
            Check.refused(TEXT, "tell(0, 0, 1, " + grade + ")", ARGUMENT, x -> x.tell(0, 0, 1, grade));
            Check.refused(TEXT, "tell(0, 0, 2, " + grade + ")", INDEX, x -> x.tell(0, 0, 2, grade));
            Check.refused(TEXT, "tell(0, 3, 0, " + grade + ")", INDEX, x -> x.tell(0, 3, 0, grade));
            Check.refused(TEXT, "tell(2, 0, 0, " + grade + ")", INDEX, x -> x.tell(2, 0, 0, grade));
        }
    }

    private static void marksTold() {
        Check.says("A MARK is told (0 to 10): what it was. IllegalArgumentException: it is none");
        for (int mark = 0; mark <= 10; mark++) {
            int told = mark;
            IceJudge x = Check.read(TEXT);
            Check.due("show(0, 2, 1, " + mark + ")", 6, () -> x.show(0, 2, 1, told));
            Check.due("mark(0, 2, 1)", told, () -> x.mark(0, 2, 1));
            Check.due("show(0, 2, 1, 0)", told, () -> x.show(0, 2, 1, 0));
        }
        int[] wrong = {-1, 11, Integer.MIN_VALUE, Integer.MAX_VALUE};
        for (int mark : wrong) {
            Check.refused(TEXT, "show(0, 2, 1, " + mark + ")", ARGUMENT, x -> x.show(0, 2, 1, mark));
            Check.refused(TEXT, "show(0, 2, 2, " + mark + ")", INDEX, x -> x.show(0, 2, 2, mark));
            Check.refused(TEXT, "show(0, 3, 0, " + mark + ")", INDEX, x -> x.show(0, 3, 0, mark));
            Check.refused(TEXT, "show(2, 0, 0, " + mark + ")", INDEX, x -> x.show(2, 0, 0, mark));
        }
    }

    private static void callsTold() {
        Check.says("A CALL (0 under, 1 edge, 2 fall) is told, or taken back (is false): whether it was there");
        for (int call = 0; call < 3; call++) {
            int c = call;
            IceJudge x = Check.read(TEXT);
            Check.due("call(0, 1, " + c + ", false)", 0, () -> Check.truth(x.call(0, 1, c, false)));
            Check.due("CALLS", 0, () -> x.attempt(0, 1, 5));
            Check.due("call(0, 1, " + c + ", true)", 0, () -> Check.truth(x.call(0, 1, c, true)));
            Check.due("CALLS", 1 << c, () -> x.attempt(0, 1, 5));
            Check.due("call(0, 1, " + c + ", true)", 1, () -> Check.truth(x.call(0, 1, c, true)));
            Check.due("CALLS", 1 << c, () -> x.attempt(0, 1, 5));
            Check.due("call(0, 1, " + c + ", false)", 1, () -> Check.truth(x.call(0, 1, c, false)));
            Check.due("CALLS", 0, () -> x.attempt(0, 1, 5));
            Check.due("CALLS of another one", 2, () -> x.attempt(0, 0, 5));
        }
        int[] wrong = {-1, 3, 32, Integer.MIN_VALUE, Integer.MAX_VALUE};
        for (int call : wrong) {
            Check.refused(TEXT, "call(0, 0, " + call + ", true)", ARGUMENT, x -> Check.truth(x.call(0, 0, call, true)));
            Check.refused(TEXT, "call(0, 0, " + call + ", false)", ARGUMENT, x -> Check.truth(x.call(0, 0, call, false)));
            Check.refused(TEXT, "call(0, 3, " + call + ", true)", INDEX, x -> Check.truth(x.call(0, 3, call, true)));
            Check.refused(TEXT, "call(2, 0, " + call + ", true)", INDEX, x -> Check.truth(x.call(2, 0, call, true)));
        }
    }

    private static void basesTold() {
        Check.says("BASE of an ELEMENT is told (0 to 2000): what it was. IllegalArgumentException: it is none");
        int[] right = {0, 1, 1999, 2000};
        for (int base : right) {
            IceJudge x = Check.read(TEXT);
            Check.due("base(1, " + base + ")", 60, () -> x.base(1, base));
            Check.due("element(1, 0)", base, () -> x.element(1, 0));
            Check.due("base(1, 5)", base, () -> x.base(1, 5));
        }
        int[] wrong = {-1, 2001, Integer.MIN_VALUE, Integer.MAX_VALUE};
        for (int base : wrong) {
            Check.refused(TEXT, "base(1, " + base + ")", ARGUMENT, x -> x.base(1, base));
            Check.refused(TEXT, "base(2, " + base + ")", INDEX, x -> x.base(2, base));
            Check.refused(TEXT, "base(-1, " + base + ")", INDEX, x -> x.base(-1, base));
        }
    }

    private static void settingsTold() {
        Check.says("NoSuchElementException: another what; IllegalArgumentException: the number is out of its bounds");
        int[] least = {0, 0, 0, 1, 0, 0, 0};
        int[] most = {3, 600, 50, 3, 300, 300, 300};
        int[] first = {1, 120, 10, 2, 100, 100, 100};
        for (int i = 0; i < 7; i++) {
            int what = i;
            int[] right = {least[i], most[i]};
            for (int v : right) {
                IceJudge x = new IceJudge();
                Check.due("set(" + what + ", " + v + ")", first[what], () -> x.set(what, v));
                Check.due("count(" + (what + 3) + ")", v, () -> x.count(what + 3));
                Check.due("set(" + what + ", 1)", v, () -> x.set(what, 1));
            }
            int[] wrong = {least[i] - 1, most[i] + 1, Integer.MIN_VALUE, Integer.MAX_VALUE};
            for (int v : wrong) {
                Check.refused("", "set(" + what + ", " + v + ")", ARGUMENT, x -> x.set(what, v));
            }
        }
        int[] others = {-1, 7, 8, Integer.MIN_VALUE, Integer.MAX_VALUE};
        for (int what : others) {
            Check.refused("", "set(" + what + ", 1)", NoSuchElementException.class, x -> x.set(what, 1));
            Check.refused("", "set(" + what + ", -1)", NoSuchElementException.class, x -> x.set(what, -1));
        }
    }

    private static void scratched() {
        Check.says("An ATTEMPT is SCRATCHED: how many its SKATER has still");
        IceJudge x = Check.read(TEXT);
        Check.due("scratch(0, 1)", 2, () -> x.scratch(0, 1));
        Check.due("scratch(0, 2)", 1, () -> x.scratch(0, 2));
        Check.due("scratch(1, 0)", 0, () -> x.scratch(1, 0));
        Check.due("scratch(0, 0)", 0, () -> x.scratch(0, 0));
        Check.due("count(20)", 3, () -> x.count(20));
        Check.due("count(21)", 1, () -> x.count(21));
        Check.due("count(11)", 4, () -> x.count(11));
        int[][] wrong = {{0, 3}, {0, -1}, {1, 1}, {2, 0}, {-1, 0}, {0, 32}, {0, Integer.MAX_VALUE}, {Integer.MIN_VALUE, 0}};
        for (int[] w : wrong) {
            Check.refused(TEXT, "scratch(" + w[0] + ", " + w[1] + ")", INDEX, y -> y.scratch(w[0], w[1]));
        }
    }

    private static void scratchedIsNone() {
        Check.says("an ATTEMPT is SCRATCHED (ATTEMPTS keep their numbers; it is none any more)");
        IceJudge x = Check.read(TEXT + "deduct tries;deduct jumps;deduct edges;deduct spins;");
        x.scratch(0, 0);
        Check.throwsDue("scratch(0, 0)", INDEX, () -> x.scratch(0, 0));
        for (int what = 0; what <= 11; what++) {
            int w = what;
            Check.throwsDue("attempt(0, 0, " + what + ")", INDEX, () -> x.attempt(0, 0, w));
        }
        Check.throwsDue("grade(0, 0, 0)", INDEX, () -> x.grade(0, 0, 0));
        Check.throwsDue("mean(0, 0)", INDEX, () -> x.mean(0, 0));
        Check.throwsDue("tell(0, 0, 0, 0)", INDEX, () -> x.tell(0, 0, 0, 0));
        Check.throwsDue("call(0, 0, 0, true)", INDEX, () -> Check.truth(x.call(0, 0, 0, true)));
        Check.throwsDue("raise(0, 0, 0)", INDEX, () -> x.raise(0, 0, 0));
        Check.due("count(11)", 1, () -> x.count(11));
        Check.due("time of the next", 2, () -> x.attempt(0, 1, 0));
        Check.due("time of the last", 3, () -> x.attempt(0, 2, 0));
        int[] rules = {2, 1, 0, 1};
        for (int r = 0; r < 4; r++) {
            int rule = r;
            Check.due("rule(0, " + r + ")", rules[r], () -> x.rule(0, rule));
        }
        Check.due("POINTS", 60 + 12 + 100, () -> x.total(0, 0));
        Check.due("bias(1) without it", 0, () -> x.bias(1));
        Check.due("undo()", 0, x::undo);
        Check.due("grade(0, 0, 1)", 1, () -> x.grade(0, 0, 1));
        Check.due("bias(1) with it", 50, () -> x.bias(1));
    }
}
