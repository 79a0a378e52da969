/** "Terms", THE TEXT: the bounds of each line's numbers, what is without a line, and where a line can't stand. */
public final class LineBoundsTest {
    private static final int NONE = IceJudge.NONE;
    private static final String JUMP = "element a jump 5;";
    private static final String SKATER = "skater s;";
    private static final String TRY = "do a 5 fffff;";
    private static final String SHOW = "show aaaaa bbbbb ccccc;";

    public static void main(String[] args) {
        settings();
        factors();
        bases();
        kinds();
        times();
        timesAhead();
        lasting();
        joinedElements();
        elementsToldAhead();
        namesOnce();
        lastOneCounts();
        lastOneOfASkaterCounts();
        judgesBehind();
        aheadOfTheFirstSkater();
        Check.finish();
    }

    /** Both sides of both bounds, and what is read, as count(what) tells it. */
    private static void boundsOf(String word, int least, int most, int without, int what) {
        String ahead = word + " ";
        Check.asked("", word + " without", without, x -> x.count(what));
        Check.asked(SKATER, word + " without", without, x -> x.count(what));
        for (int v = 0; v <= most; v++) {
            int told = v;
            if (v >= least) {
                Check.asked(ahead + v + ";", word, told, x -> x.count(what));
            } else {
                Check.faultDue(ahead + v + ";", ahead.length());
            }
        }
        Check.faultDue(ahead + (most + 1) + ";", ahead.length());
        Check.faultDue(ahead + "9999;", ahead.length());
        Check.faultDue(ahead + "-1;", ahead.length());
        Check.faultDue(ahead + ";", ahead.length());
        Check.faultDue(ahead + most + " 1;", (ahead + most).length() + 1);
    }

    private static void settings() {
        Check.says("judges: JUDGES 1 to 9 (5 without)");
        boundsOf("judges", 1, 9, 5, 2);
        Check.says("drop: DROP 0 to 3 (1 without)");
        boundsOf("drop", 0, 3, 1, 3);
        Check.says("half: HALF 0 to 600 (120 without)");
        boundsOf("half", 0, 600, 120, 4);
        Check.says("late: LATE 0 to 50 (10 without)");
        boundsOf("late", 0, 50, 10, 5);
        Check.says("repeat: REPEAT 1 to 3 (2 without)");
        boundsOf("repeat", 1, 3, 2, 6);
    }

    private static void factors() {
        Check.says("factor: FACTORS of three COMPONENTS 0 to 300 (100 each without)");
        for (int i = 7; i <= 9; i++) {
            int what = i;
            Check.asked("", "a FACTOR without", 100, x -> x.count(what));
            Check.asked("factor 0 0 0;", "a FACTOR", 0, x -> x.count(what));
            Check.asked("factor 300 300 300;", "a FACTOR", 300, x -> x.count(what));
            Check.asked("factor 7 8 9;", "a FACTOR", what, x -> x.count(what));
        }
        Check.faultDue("factor 301 0 0;", 7);
        Check.faultDue("factor 300 301 0;", 11);
        Check.faultDue("factor 300 300 301;", 15);
        Check.faultDue("factor;", 6);
        Check.faultDue("factor 1;", 8);
        Check.faultDue("factor 1 2;", 10);
        Check.faultDue("factor 1 2 3 4;", 13);
    }

    private static void bases() {
        Check.says("its BASE 0 to 2000");
        String ahead = "element a jump ";
        Check.asked(ahead + "0;", "BASE", 0, x -> x.element(0, 0));
        Check.asked(ahead + "2000;", "BASE", 2000, x -> x.element(0, 0));
        Check.faultDue(ahead + "2001;", 15);
        Check.faultDue(ahead + "9999;", 15);
        Check.faultDue(ahead + "-1;", 15);
        Check.faultDue(ahead + ";", 15);
    }

    private static void kinds() {
        Check.says("KIND: jump, spin or steps");
        Check.asked("element a jump 5;", "KIND", 0, x -> x.element(0, 1));
        Check.asked("element a spin 5;", "KIND", 1, x -> x.element(0, 1));
        Check.asked("element a steps 5;", "KIND", 2, x -> x.element(0, 1));
        String[] others = {"jumps", "jum", "spins", "step", "stepss", "element", "a", "5", ";"};
        for (String other : others) {
            Check.faultDue("element a " + other + " 5;", 10);
        }
    }

    private static void times() {
        Check.says("its time 0 to 600");
        String ahead = JUMP + SKATER + "do a ";
        Check.asked(ahead + "0 fffff;", "time", 0, x -> x.attempt(0, 0, 0));
        Check.asked(ahead + "600 fffff;", "time", 600, x -> x.attempt(0, 0, 0));
        Check.faultDue(ahead + "601 fffff;", ahead.length());
        Check.faultDue(ahead + "9999 fffff;", ahead.length());
        Check.faultDue(ahead + "fffff;", ahead.length());
    }

    private static void timesAhead() {
        Check.says("not less than that of the one ahead");
        String ahead = JUMP + SKATER + "do a 70 fffff;do a ";
        Check.asked(ahead + "70 fffff;", "time", 70, x -> x.attempt(0, 1, 0));
        Check.asked(ahead + "71 fffff;", "time", 71, x -> x.attempt(0, 1, 0));
        Check.faultDue(ahead + "69 fffff;", ahead.length());
        Check.faultDue(ahead + "600 fffff;do a 600 fffff;", NONE);
        Check.faultDue(ahead + "600 fffff;do a 599 fffff;", ahead.length() + 15);
        Check.faultDue(ahead + "80 fffff;lasts 5;" + SHOW + "do a 79 fffff;", ahead.length() + 45);
        Check.asked(ahead + "80 fffff;skater t;do a 0 fffff;", "time of another one's first", 0, x -> x.attempt(1, 0, 0));
    }

    private static void lasting() {
        Check.says("lasts: how long that SKATER skates, 0 to 600 (0 without)");
        String ahead = "deduct time;" + SKATER;
        Check.asked(ahead, "time without", 0, x -> x.rule(0, 0));
        Check.asked(ahead + "lasts 0;", "time", 0, x -> x.rule(0, 0));
        Check.asked(ahead + "lasts 600;", "time", 600, x -> x.rule(0, 0));
        Check.asked("deduct time+5;" + SKATER, "time without, and 5", 5, x -> x.rule(0, 0));
        Check.asked("deduct 7 if time=0;" + SKATER, "whether time is 0 without", 7, x -> x.rule(0, 0));
        Check.faultDue(ahead + "lasts 601;", ahead.length() + 6);
        Check.faultDue(ahead + "lasts;", ahead.length() + 5);
        Check.asked(ahead + "lasts 9;skater t;", "time of another one", 0, x -> x.rule(1, 0));
        Check.asked(ahead + "skater t;lasts 9;", "time of the one ahead", 0, x -> x.rule(0, 0));
        Check.asked(ahead + "skater t;lasts 9;", "time of the latest", 9, x -> x.rule(1, 0));
    }

    private static void joinedElements() {
        Check.says("1 to 3 ELEMENTS told ahead (+ joins jumps alone)");
        String ahead = JUMP + "element b jump 6;element c spin 7;element d steps 8;" + SKATER;
        int at = ahead.length();
        String[] right = {"a", "b+a", "a+b+b", "c", "d"};
        int[] many = {1, 2, 3, 1, 1};
        for (int i = 0; i < right.length; i++) {
            Check.asked(ahead + "do " + right[i] + " 5 fffff;", "ELEMENTS", many[i], x -> x.attempt(0, 0, 1));
        }
        Check.faultDue(ahead + "do 5 fffff;", at + 3);
        Check.faultDue(ahead + "do a+b+a+b 5 fffff;", at + 8);
        Check.faultDue(ahead + "do c+a 5 fffff;", at + 4);
        Check.faultDue(ahead + "do d+a 5 fffff;", at + 4);
        Check.faultDue(ahead + "do c+c 5 fffff;", at + 4);
        Check.faultDue(ahead + "do a+c 5 fffff;", at + 5);
        Check.faultDue(ahead + "do a+d 5 fffff;", at + 5);
        Check.faultDue(ahead + "do a+b+c 5 fffff;", at + 7);
        Check.faultDue(ahead + "do a+b+d 5 fffff;", at + 7);
        Check.faultDue(ahead + "do a+ 5 fffff;", at + 6);
        Check.faultDue(ahead + "do +a 5 fffff;", at + 3);
        Check.faultDue(ahead + "do a++b 5 fffff;", at + 5);
    }

    private static void elementsToldAhead() {
        Check.says("1 to 3 ELEMENTS told ahead");
        Check.faultDue(SKATER + JUMP + TRY, NONE);
        Check.faultDue(SKATER + "do a 5 fffff;" + JUMP, 12);
        Check.faultDue(JUMP + SKATER + "do a+b 5 fffff;element b jump 5;", 31);
        Check.faultDue(JUMP + SKATER + "do s 5 fffff;", 29);
        Check.asked(JUMP + SKATER + TRY + "element b jump 5;do b 5 fffff;", "its ELEMENT", 1, x -> x.attempt(0, 1, 2));
    }

    private static void namesOnce() {
        Check.says("NAMES of ELEMENTS, of SKATERS: each once among their like");
        Check.faultDue("element a jump 5;element b jump 5;", NONE);
        Check.faultDue("element a jump 5;element a jump 5;", 25);
        Check.faultDue("element a jump 5;element b spin 5;element a steps 5;", 42);
        Check.faultDue("skater a;skater b;", NONE);
        Check.faultDue("skater a;skater a;", 16);
        Check.faultDue("skater a;skater b;skater a;", 25);
        Check.faultDue("skater ab;skater a;skater b;skater ba;skater abc;", NONE);
        Check.faultDue("element a jump 5;skater a;", NONE);
        Check.faultDue("skater a;element a jump 5;", NONE);
    }

    private static void lastOneCounts() {
        Check.says("Of judges, drop, factor, half, late, repeat the last one counts");
        String first = "judges 2;drop 0;half 1;late 2;repeat 3;factor 4 5 6;";
        String last = "judges 7;drop 2;half 9;late 8;repeat 1;factor 10 11 12;";
        int[] want = {7, 2, 9, 8, 1, 10, 11, 12};
        for (int i = 0; i < want.length; i++) {
            int what = i + 2;
            Check.asked(first + last, "count(" + what + ")", want[i], x -> x.count(what));
            Check.asked(first + SKATER + last, "count(" + what + ")", want[i], x -> x.count(what));
        }
        Check.asked(first + "half 9;", "LATE, told once", 2, x -> x.count(5));
        Check.faultDue("judges 2;judges 3;" + JUMP + SKATER + "do a 1 fff;", NONE);
        Check.faultDue("judges 3;judges 2;" + JUMP + SKATER + "do a 1 fff;", 51);
        Check.asked(JUMP + SKATER + TRY + "half 5;", "LATE by a half behind it", 1, x -> x.attempt(0, 0, 6));
    }

    private static void lastOneOfASkaterCounts() {
        Check.says("of show, lasts the last one of a SKATER (MARKS without show: 0)");
        String ahead = "deduct time;" + SKATER;
        Check.asked(ahead + "lasts 8;lasts 7;", "time", 7, x -> x.rule(0, 0));
        Check.asked(ahead + "lasts 8;skater t;lasts 7;", "time", 8, x -> x.rule(0, 0));
        String other = "show kkkkk jjjjj iiiii;";
        for (int i = 0; i < 3; i++) {
            int component = i;
            for (int j = 0; j < 5; j++) {
                int judge = j;
                Check.asked(ahead, "mark without show", 0, x -> x.mark(0, component, judge));
                Check.asked(ahead + other + SHOW, "mark", component, x -> x.mark(0, component, judge));
                Check.asked(ahead + other + "skater t;" + SHOW, "mark", 10 - component, x -> x.mark(0, component, judge));
                Check.asked(ahead + other + "skater t;", "mark of another one", 0, x -> x.mark(1, component, judge));
            }
        }
    }

    private static void judgesBehind() {
        Check.says("judges can't stand behind a do, a show");
        Check.faultDue(JUMP + SKATER + "judges 5;" + TRY, NONE);
        Check.faultDue(JUMP + SKATER + "lasts 5;judges 5;deduct 1;judges 5;" + SHOW, NONE);
        Check.faultDue(JUMP + SKATER + TRY + "judges 5;", 39);
        Check.faultDue(JUMP + SKATER + SHOW + "judges 5;", 49);
        Check.faultDue(JUMP + SKATER + TRY + "skater t;judges 5;", 48);
        Check.faultDue(JUMP + SKATER + SHOW + "skater t;judges 5;", 58);
        Check.faultDue(JUMP + SKATER + TRY + "drop 1;half 1;late 1;repeat 1;factor 1 1 1;deduct 1;element b jump 5;lasts 5;", NONE);
        IceJudge x = Check.read(JUMP + SKATER + TRY);
        Check.put(x, "judges 4;" + SKATER);
        Check.due("read() of judges behind a read()", 1, x::read);
    }

    private static void aheadOfTheFirstSkater() {
        Check.says("do, show, lasts not ahead of the first skater");
        String[] lines = {TRY, SHOW, "lasts 5;"};
        for (String line : lines) {
            Check.faultDue(JUMP + line + SKATER, 17);
            Check.faultDue(JUMP + SKATER + line, NONE);
            Check.faultDue(line, 0);
            IceJudge x = Check.read(JUMP + SKATER);
            Check.put(x, JUMP + line);
            Check.throwsDue("read() with a skater of the text ahead", IllegalArgumentException.class, x::read);
            Check.due("fault()", 17, x::fault);
        }
    }
}
