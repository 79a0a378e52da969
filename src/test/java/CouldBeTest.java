/** Promises 35 to 43: what could be, what is written, and what there is. */
public final class CouldBeTest {
    private static final int NONE = IceJudge.NONE;
    private static final Class<IndexOutOfBoundsException> INDEX = IndexOutOfBoundsException.class;
    private static final Class<IllegalArgumentException> ARGUMENT = IllegalArgumentException.class;

    public static void main(String[] args) {
        needed();
        neededByPoints();
        raised();
        prime();
        led();
        doubt();
        clean();
        written();
        counts();
        Check.finish();
    }

    private static void needed() {
        // p has 300, and at most 50 more or less; r 900; t nothing.
        IceJudge x = Check.read("judges 3;element a jump 200;element b spin 100;skater p;do a 1 fff;do b 2 fff;"
                + "skater q;show daa daa bbb;skater r;show jjj aaa aaa;skater t;");
        Check.due("total of q", 100, () -> x.total(1, 4));
        x.show(1, 0, 1, 3);
        Check.due("total of q", 400, () -> x.total(1, 4));
        Check.due("needed(0, 1)", -100, () -> x.needed(0, 1));
        x.show(1, 2, 0, 0);
        x.show(1, 2, 1, 0);
        Check.due("total of q", 300, () -> x.total(1, 4));
        Check.due("needed(0, 1) by points", 0, () -> x.needed(0, 1));
        Check.due("needed(0, 2)", -100, () -> x.needed(0, 2));
        Check.due("needed(0, 3)", -5, () -> x.needed(0, 3));
        Check.due("needed(3, 0) without attempts", -100, () -> x.needed(3, 0));
        Check.due("needed(3, 2) without attempts", -100, () -> x.needed(3, 2));
        Check.due("needed(2, 3) without attempts, ahead", -100, () -> x.needed(2, 3));
        x.scratch(0, 1);
        // The last attempt is the first one now: 200 by grades, 300 at 5, and its points are greater.
        Check.due("needed(0, 1) with one scratched", 5, () -> x.needed(0, 1));
        x.scratch(0, 0);
        Check.due("needed(0, 1) with all scratched", -100, () -> x.needed(0, 1));
        Check.throwsDue("needed(0, 0)", ARGUMENT, () -> x.needed(0, 0));
        Check.throwsDue("needed(4, 4)", INDEX, () -> x.needed(4, 4));
        Check.throwsDue("needed(0, 4)", INDEX, () -> x.needed(0, 4));
        Check.throwsDue("needed(-1, 0)", INDEX, () -> x.needed(-1, 0));
    }

    private static void neededByPoints() {
        // Like totals: then points count, then numbers; q has 100 points, p what it is given.
        IceJudge x = Check.read("judges 1;element a jump 100;skater p;do a 1 a;skater q;do a 1 f;");
        Check.due("needed(0, 1)", 0, () -> x.needed(0, 1));
        Check.due("needed(1, 0)", -4, () -> x.needed(1, 0));
        Check.due("a question changes no grade", -5, () -> x.grade(0, 0, 0));
        Check.due("rank(1)", 0, () -> x.rank(1));
        // Both totals are 0 by the rule, points alone tell who is ahead.
        IceJudge y = Check.read("judges 1;element a jump 100;skater p;do a 1 f;skater q;do a 1 a;deduct 900;");
        Check.due("needed(1, 0) by points", 1, () -> y.needed(1, 0));
    }

    private static void raised() {
        IceJudge x = Check.read("judges 3;drop 0;element a jump 100;skater s;do a 1 fgk;do a 2 fff fall;");
        // 600 by 3 is 200; 700 by 3 is 233: 20 and 23.
        Check.due("raise(0, 0, 0)", 3, () -> x.raise(0, 0, 0));
        Check.due("raise(0, 0, 1)", 3, () -> x.raise(0, 0, 1));
        Check.throwsDue("raise(0, 0, 2)", IllegalStateException.class, () -> x.raise(0, 0, 2));
        Check.due("a question changes no grade", 0, () -> x.grade(0, 0, 0));
        Check.due("a question is no act", 0, () -> x.count(11));
        Check.throwsDue("raise(0, 0, 3)", INDEX, () -> x.raise(0, 0, 3));
        Check.throwsDue("raise(0, 2, 0)", INDEX, () -> x.raise(0, 2, 0));
        Check.throwsDue("raise(1, 0, 0)", INDEX, () -> x.raise(1, 0, 0));
        IceJudge y = Check.read("judges 3;drop 1;element a jump 1000;skater s;do a 1 afk;");
        Check.due("raise of the least", 0, () -> y.raise(0, 0, 0));
        Check.due("raise of the middle", 100, () -> y.raise(0, 0, 1));
        IceJudge z = Check.read("judges 1;element a jump 100;skater s;do a 1 f;deduct 105;");
        Check.due("raise of a total of 0", 5, () -> z.raise(0, 0, 0));
    }

    private static void prime() {
        // Worths 100, 300 (spin), 200, 100, 250 with under: 200; with ten hundredths 10, 20, 10, 20.
        IceJudge x = Check.read("judges 1;element a jump 100;element b spin 300;element c jump 200;element d jump 250;skater s;"
                + "do a 1 f;do b 2 f;do c 3 f;do a 400 f;do d 500 f under;");
        int[] want = {0, 4, 20, 21, 29, 29};
        for (int n = 0; n < want.length; n++) {
            int many = n;
            Check.due("prime(0, " + n + ")", want[n], () -> x.prime(0, many));
        }
        Check.due("prime(0, 12)", 29, () -> x.prime(0, 12));
        Check.throwsDue("prime(0, 13)", ARGUMENT, () -> x.prime(0, 13));
        Check.throwsDue("prime(0, -1)", ARGUMENT, () -> x.prime(0, -1));
        Check.throwsDue("prime(1, 13)", INDEX, () -> x.prime(1, 13));
        x.scratch(0, 2);
        Check.due("prime(0, 1) with one scratched", 16, () -> x.prime(0, 1));
        x.set(2, 0);
        Check.due("prime(0, 2) where all are like", 9, () -> x.prime(0, 2));
    }

    private static void led() {
        IceJudge x = Check.read("judges 1;element a jump 100;element b jump 150;skater p;do a 10 f;do a 300 f fall;"
                + "skater q;do b 20 f;skater r;lasts 5;show b a a;deduct 50 if tries>1;");
        int[] times = {0, 9, 10, 19, 20, 299, 300, 600};
        int[] leaders = {2, 2, 0, 0, 1, 1, 1, 1};
        for (int i = 0; i < times.length; i++) {
            int time = times[i];
            Check.due("led(" + time + ")", leaders[i], () -> x.led(time));
        }
        x.call(0, 1, 2, false);
        Check.due("led(300) without a fall", 0, () -> x.led(300));
        Check.due("led(299) without a fall", 1, () -> x.led(299));
        Check.throwsDue("led(-1)", ARGUMENT, () -> x.led(-1));
        Check.throwsDue("led(601)", ARGUMENT, () -> x.led(601));
    }

    private static void doubt() {
        IceJudge x = Check.read("judges 3;element a jump 100;skater p;do a 1 fff;do a 2 gag;do a 3 fkf;do a 4 aka;do a 5 kak;"
                + "skater q;skater r;do a 5 fff;");
        Check.due("doubt(0)", 3, () -> x.doubt(0));
        x.scratch(0, 3);
        x.scratch(0, 4);
        Check.due("doubt(0)", 1, () -> x.doubt(0));
        x.tell(0, 1, 1, 0);
        Check.due("doubt(0)", 2, () -> x.doubt(0));
        Check.due("doubt(1)", NONE, () -> x.doubt(1));
        Check.due("doubt(2)", 0, () -> x.doubt(2));
        Check.throwsDue("doubt(3)", INDEX, () -> x.doubt(3));
        Check.throwsDue("doubt(-1)", INDEX, () -> x.doubt(-1));
    }

    private static void clean() {
        IceJudge x = Check.read("judges 1;element a jump 1000;skater p;do a 1 f under;do a 2 f edge fall;"
                + "deduct falls*10+unders*20+edges*40+5;");
        Check.due("total", 800 + 700 - 100 - 75, () -> x.total(0, 4));
        Check.due("clean(0)", 1995, () -> x.clean(0));
        Check.due("a question changes no call", 6, () -> x.attempt(0, 1, 5));
        Check.throwsDue("clean(1)", INDEX, () -> x.clean(1));
        Check.throwsDue("clean(-1)", INDEX, () -> x.clean(-1));
    }

    private static void written() {
        IceJudge x = Check.read("judges 1;element lutz jump 12;element ax jump 1205;element sp spin 7;skater annika;skater b;"
                + "do ax+lutz+ax 1 f under edge fall;do sp 119 a;do lutz 120 f edge;do sp 200 a;do lutz+ax 599 f under;do sp 600 f;show k k k;");
        Check.due("octet(0) ahead of all", NONE, () -> x.octet(0));
        Check.writtenDue(x, 0, "annika 0.00");
        Check.due("octet(10)", '0', () -> x.octet(10));
        Check.due("octet(11)", NONE, () -> x.octet(11));
        Check.due("octet(-1)", NONE, () -> x.octet(-1));
        Check.due("count(12)", 11, () -> x.count(12));
        // 2422 by 8/10 1937, by 7/10 1355; 7 less 3.5; 12 by 7/10 8; the others are struck.
        Check.writtenDue(x, 1, "b 42.66\nax+lutz+ax<! 13.55\nsp 0.03\nlutz!x 0.08\nsp 0.00\nlutz+ax<x 0.00\nsp 0.00");
        x.scratch(1, 0);
        x.scratch(1, 5);
        x.base(2, 2000);
        x.tell(1, 3, 0, 5);
        x.base(1, 0);
        Check.writtenDue(x, 1, "b 40.17\nsp 10.00\nlutz!x 0.08\nsp 0.00\nlutz+ax<x 0.09");
        Check.throwsDue("write(2)", INDEX, () -> x.write(2));
        Check.throwsDue("write(-1)", INDEX, () -> x.write(-1));
        Check.due("what was written stays", 'b', () -> x.octet(0));
        // 140 less 125; 4 less 4.5, rounded down; 175 less 125.
        IceJudge y = Check.read("judges 1;element a jump 250;element b jump 9;skater s;do a 1 a under edge;do b 2 a under edge;do a 3 a edge;");
        Check.writtenDue(y, 0, "s 0.64\na<! 0.15\nb<! -0.01\na! 0.50");
        y.set(3, 1);
        Check.writtenDue(y, 0, "s 0.14\na<! 0.15\nb<! -0.01\na! 0.00");
    }

    private static void counts() {
        IceJudge x = Check.read("judges 7;drop 2;half 33;late 44;repeat 3;factor 11 22 33;element a jump 5;element b spin 6;"
                + "skater p;do a 1 fffffff;skater q;skater r;do b 1 fffffff;do b 1 fffffff;deduct 1;deduct 2;deduct 3;");
        x.scratch(2, 0);
        x.write(1);
        int[] want = {2, 3, 7, 2, 33, 44, 3, 11, 22, 33, 3, 1, 6};
        for (int what = 0; what < want.length; what++) {
            int w = what;
            Check.due("count(" + what + ")", want[what], () -> x.count(w));
        }
        for (int what = 13; what < 20; what++) {
            int w = what;
            Check.due("count(" + what + ")", NONE, () -> x.count(w));
        }
        int[] tries = {1, 0, 2, NONE, NONE, NONE, NONE};
        for (int i = 0; i < tries.length; i++) {
            int w = i + 20;
            Check.due("count(" + w + ")", tries[i], () -> x.count(w));
        }
        Check.due("count(-1)", NONE, () -> x.count(-1));
        Check.due("count(MAX)", NONE, () -> x.count(Integer.MAX_VALUE));
        Check.due("count(MIN)", NONE, () -> x.count(Integer.MIN_VALUE));
    }
}
