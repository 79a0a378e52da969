/** Promises 24 to 34: judges who lean, panels, places and majorities. */
public final class JudgesTest {
    private static final int NONE = IceJudge.NONE;
    private static final Class<IndexOutOfBoundsException> INDEX = IndexOutOfBoundsException.class;
    private static final Class<IllegalArgumentException> ARGUMENT = IllegalArgumentException.class;
    private static final Class<IllegalStateException> STATE = IllegalStateException.class;

    public static void main(String[] args) {
        leaning();
        withoutOne();
        swaying();
        aloneAndPlaces();
        majorities();
        majoritiesInDoubt();
        drawnPanels();
        byPanels();
        firsts();
        Check.finish();
    }

    private static void leaning() {
        // Means of grades: 100, 0 and (drop 1) -100.
        IceJudge x = Check.read("judges 3;element a jump 10;skater s;do a 1 ghg;do a 2 fka;skater t;do a 1 eee;");
        Check.due("bias(0)", 0, () -> x.bias(0));
        Check.due("bias(1)", 100 + 500, () -> x.bias(1));
        Check.due("bias(2)", -500, () -> x.bias(2));
        Check.due("odd()", 1, x::odd);
        x.tell(0, 0, 1, 1);
        Check.due("odd() of several", 1, x::odd);
        x.tell(0, 0, 2, 0);
        Check.due("bias(2)", -600, () -> x.bias(2));
        Check.due("odd() below 0", 2, x::odd);
        x.scratch(0, 1);
        Check.due("bias(2) with one scratched", -100, () -> x.bias(2));
        Check.throwsDue("bias(3)", INDEX, () -> x.bias(3));
        Check.throwsDue("bias(-1)", INDEX, () -> x.bias(-1));
        // The mean of all judges is rounded down at each attempt: -67 twice.
        IceJudge y = Check.read("judges 3;drop 0;element a jump 10;skater s;do a 1 eef;do a 2 eef;");
        Check.due("bias(0)", -66, () -> y.bias(0));
        Check.due("bias(2)", 134, () -> y.bias(2));
        Check.due("odd()", 2, y::odd);
    }

    private static void withoutOne() {
        IceJudge x = Check.read("judges 3;element a jump 100;skater s;do a 1 akk fall;show akb aaa kkk;deduct 7;");
        // All: the middle ones 500, 100, 0, 1000: 100 + 50 + 100 + 1000 - 107.
        Check.due("total", 1143, () -> x.total(0, 4));
        // Two are left, and none of them out: 500, 550; 0, 50; 0, 500.
        Check.due("without(0, 0)", 100 + 50 + 550 + 1000 - 107, () -> x.without(0, 0));
        Check.due("without(0, 1)", 100 + 0 + 50 + 1000 - 107, () -> x.without(0, 1));
        Check.due("without(0, 2)", 100 + 0 + 500 + 1000 - 107, () -> x.without(0, 2));
        Check.throwsDue("without(0, 3)", INDEX, () -> x.without(0, 3));
        Check.throwsDue("without(0, -1)", INDEX, () -> x.without(0, -1));
        Check.throwsDue("without(1, 0)", INDEX, () -> x.without(1, 0));
        IceJudge y = Check.read("judges 1;skater s;");
        Check.throwsDue("without(0, 0) of one judge", STATE, () -> y.without(0, 0));
        Check.throwsDue("without(0, 1) of one judge", INDEX, () -> y.without(0, 1));
        Check.throwsDue("without(1, 0) of one judge", INDEX, () -> y.without(1, 0));
    }

    private static void swaying() {
        // Sums of marks by three judges: p 9 0 0, q 2 3 3, r 0 0 1; means 300, 266, 33.
        IceJudge x = Check.read("judges 3;drop 0;skater p;show jaa aaa aaa;skater q;show cdd aaa aaa;skater r;show aab aaa aaa;");
        Check.due("sways(0)", 2, () -> x.sways(0));
        Check.due("sways(1)", 0, () -> x.sways(1));
        Check.due("sways(2)", 0, () -> x.sways(2));
        Check.throwsDue("sways(3)", INDEX, () -> x.sways(3));
        Check.throwsDue("sways(-1)", INDEX, () -> x.sways(-1));
        IceJudge y = Check.read("judges 1;skater p;skater q;");
        Check.throwsDue("sways(0) of one judge", STATE, () -> y.sways(0));
        Check.throwsDue("sways(1) of one judge", INDEX, () -> y.sways(1));
    }

    private static void aloneAndPlaces() {
        IceJudge x = Check.read("judges 2;element a jump 100;skater p;do a 1 ka;show ab aa aa;skater q;do a 1 ak;show ba aa aa;"
                + "skater r;do a 1 ff;show ab ba aa;");
        // Judge 0: p 150, q 50 + 100, r 100 + 100. Judge 1: p 50 + 100, q 150, r 100 + 100.
        int[][] want = {{150, 150}, {150, 150}, {200, 200}};
        for (int i = 0; i < 3; i++) {
            int s = i;
            Check.due("alone(" + s + ", 0)", want[s][0], () -> x.alone(s, 0));
            Check.due("alone(" + s + ", 1)", want[s][1], () -> x.alone(s, 1));
        }
        int[][] places = {{1, 2}, {2, 1}, {0, 0}};
        for (int i = 0; i < 3; i++) {
            int s = i;
            Check.due("place(" + s + ", 0)", places[s][0], () -> x.place(s, 0));
            Check.due("place(" + s + ", 1)", places[s][1], () -> x.place(s, 1));
        }
        Check.throwsDue("alone(0, 2)", INDEX, () -> x.alone(0, 2));
        Check.throwsDue("alone(3, 0)", INDEX, () -> x.alone(3, 0));
        Check.throwsDue("place(0, 2)", INDEX, () -> x.place(0, 2));
        Check.throwsDue("place(0, -1)", INDEX, () -> x.place(0, -1));
        Check.throwsDue("place(3, 0)", INDEX, () -> x.place(3, 0));
        IceJudge y = Check.read("judges 1;drop 3;skater s;show k k k;");
        Check.due("alone of one judge", 3000, () -> y.alone(0, 0));
    }

    private static void majorities() {
        // Places by five judges: p 0 0 2 2 2, q 1 1 0 1 1, r 2 2 1 0 0.
        IceJudge x = Check.read("skater p;show ccaaa aaaaa aaaaa;skater q;show bbcbb aaaaa aaaaa;skater r;show aabcc aaaaa aaaaa;");
        Check.due("majority(0)", 2, () -> x.majority(0));
        Check.due("majority(1)", 1, () -> x.majority(1));
        Check.due("majority(2)", 1, () -> x.majority(2));
        // q has five at 1 or ahead, r three.
        Check.due("major(0)", 1, () -> x.major(0));
        Check.due("major(1)", 2, () -> x.major(1));
        Check.due("major(2)", 0, () -> x.major(2));
        Check.due("major(3)", NONE, () -> x.major(3));
        Check.due("major(-1)", NONE, () -> x.major(-1));
        Check.throwsDue("majority(3)", INDEX, () -> x.majority(3));
        Check.throwsDue("majority(-1)", INDEX, () -> x.majority(-1));
    }

    private static void majoritiesInDoubt() {
        // Places by two judges: p 0 1, q 1 0: half is not more than half, and the lesser number is ahead.
        IceJudge x = Check.read("judges 2;skater p;show ba aa aa;skater q;show ab aa aa;");
        Check.due("majority(0) of two", 1, () -> x.majority(0));
        Check.due("majority(1) of two", 1, () -> x.majority(1));
        Check.due("major(0) of two", 0, () -> x.major(0));
        // Places by three: p 1 1 2, q 2 0 1, r 0 2 0. q and p have 1 with two judges, together 3 and 4.
        IceJudge y = Check.read("judges 3;skater p;show bba aaa aaa;skater q;show acb aaa aaa;skater r;show cac aaa aaa;");
        Check.due("majority(0)", 1, () -> y.majority(0));
        Check.due("majority(1)", 1, () -> y.majority(1));
        Check.due("majority(2)", 0, () -> y.majority(2));
        Check.due("major(0)", 2, () -> y.major(0));
        Check.due("major(1)", 1, () -> y.major(1));
        Check.due("major(2)", 0, () -> y.major(2));
        // p and q change sides: places p 2 0 1, q 1 1 2.
        for (int judge = 0; judge < 3; judge++) {
            int mark = y.mark(0, 0, judge);
            y.show(0, 0, judge, y.mark(1, 0, judge));
            y.show(1, 0, judge, mark);
        }
        Check.due("major(1) told anew", 0, () -> y.major(1));
        Check.due("major(2) told anew", 1, () -> y.major(2));
    }

    private static void drawnPanels() {
        IceJudge x = new IceJudge();
        for (int n = 1; n <= 5; n++) {
            for (int seed = -40; seed < 40; seed++) {
                int s = seed * 99991;
                int size = n;
                Check.due("panel(" + s + ", " + n + ")", drawn(s, n, 5), () -> x.panel(s, size));
            }
        }
        Check.due("panel(0, 5)", 31, () -> x.panel(0, 5));
        Check.throwsDue("panel(0, 0)", ARGUMENT, () -> x.panel(0, 0));
        Check.throwsDue("panel(0, -1)", ARGUMENT, () -> x.panel(0, -1));
        Check.throwsDue("panel(0, 6)", ARGUMENT, () -> x.panel(0, 6));
        IceJudge y = Check.read("judges 9;");
        Check.due("panel(MIN, 4) of nine", drawn(Integer.MIN_VALUE, 4, 9), () -> y.panel(Integer.MIN_VALUE, 4));
        Check.due("panel(MAX, 8) of nine", drawn(Integer.MAX_VALUE, 8, 9), () -> y.panel(Integer.MAX_VALUE, 8));
    }

    private static int drawn(int seed, int n, int judges) {
        java.util.List<Integer> left = new java.util.ArrayList<>();
        for (int i = 0; i < judges; i++) {
            left.add(i);
        }
        long x = seed;
        int panel = 0;
        for (int i = 0; i < n; i++) {
            x = Math.floorMod(1103515245L * x + 12345L, 1L << 32);
            long bits = x / 65536 % 32768;
            panel += 1 << left.remove((int) (bits % left.size()));
        }
        return panel;
    }

    private static void byPanels() {
        IceJudge x = Check.read("judges 4;drop 1;element a jump 100;skater s;do a 1 afgk;show abcd aaaa aaaa;");
        // The mean of the grades by 10, and the mean of the marks.
        int[] want = {50, 200, 100 - 25 + 50, 310, 100 - 20 + 100, 100 + 5 + 150, 100 + 0 + 100, 450};
        for (int i = 0; i < want.length; i++) {
            int panel = i + 1;
            Check.due("by(0, " + panel + ")", want[i], () -> x.by(0, panel));
        }
        Check.due("by(0, 15)", 100 + 5 + 150, () -> x.by(0, 15));
        Check.throwsDue("by(0, 0)", ARGUMENT, () -> x.by(0, 0));
        Check.throwsDue("by(0, 16)", ARGUMENT, () -> x.by(0, 16));
        Check.throwsDue("by(0, 17)", ARGUMENT, () -> x.by(0, 17));
        Check.throwsDue("by(0, -1)", ARGUMENT, () -> x.by(0, -1));
        Check.throwsDue("by(0, MIN)", ARGUMENT, () -> x.by(0, Integer.MIN_VALUE));
        Check.throwsDue("by(1, 0)", INDEX, () -> x.by(1, 0));
    }

    private static void firsts() {
        // Marks by three judges: p 3 0 0, q 0 1 2.
        IceJudge x = Check.read("judges 3;drop 0;skater p;show daa aaa aaa;skater q;show abc aaa aaa;skater r;");
        int[][] want = {{1, 2, 1}, {2, 1, 0}, {0, 0, 0}};
        for (int i = 0; i < 3; i++) {
            for (int n = 1; n <= 3; n++) {
                int s = i;
                int size = n;
                Check.due("firsts(" + s + ", " + n + ")", want[s][n - 1], () -> x.firsts(s, size));
            }
        }
        Check.throwsDue("firsts(0, 0)", ARGUMENT, () -> x.firsts(0, 0));
        Check.throwsDue("firsts(0, 4)", ARGUMENT, () -> x.firsts(0, 4));
        Check.throwsDue("firsts(3, 0)", INDEX, () -> x.firsts(3, 0));
        IceJudge y = Check.read("judges 9;skater p;skater q;");
        Check.due("firsts(0, 4) of nine", 126, () -> y.firsts(0, 4));
        Check.due("firsts(1, 4) of nine", 0, () -> y.firsts(1, 4));
    }
}
