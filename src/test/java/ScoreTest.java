import java.util.NoSuchElementException;

/** Promises 8 to 16: attempts, means, components, totals, rules and ranks. */
public final class ScoreTest {
    private static final int NONE = IceJudge.NONE;
    private static final Class<IndexOutOfBoundsException> INDEX = IndexOutOfBoundsException.class;

    public static void main(String[] args) {
        trimmed();
        attemptParts();
        worthAndGain();
        struck();
        lateness();
        components();
        totals();
        ruleSums();
        rulesReadOften();
        ruleTests();
        ruleWords();
        ranks();
        wrongInputs();
        Check.finish();
    }

    private static void meanDue(int drop, String grades, int want) {
        IceJudge x = Check.read("judges " + grades.length() + ";drop " + drop
                + ";element a jump 100;skater s;do a 0 " + grades + ";");
        Check.due("mean of " + grades + " by drop " + drop, want, () -> x.mean(0, 0));
    }

    private static void trimmed() {
        meanDue(0, "k", 500);
        meanDue(3, "a", -500);
        meanDue(0, "ak", 0);
        meanDue(1, "ei", 100);
        meanDue(3, "ef", -50);
        meanDue(0, "ggf", 66);
        meanDue(0, "eef", -67);
        meanDue(1, "kea", -100);
        meanDue(2, "kea", -100);
        meanDue(1, "aafk", -250);
        meanDue(2, "aafk", -250);
        meanDue(3, "kkfa", 250);
        meanDue(1, "akgfe", 0);
        meanDue(2, "agghh", 100);
        meanDue(3, "kihga", 200);
        meanDue(1, "hhgfea", 50);
        meanDue(3, "hhgfea", 50);
        meanDue(2, "aaakkkk", 166);
        meanDue(3, "aaakkkk", 500);
        meanDue(3, "aaaakkkkk", 166);
        meanDue(3, "kkkkaaaaa", -167);
        meanDue(0, "aaaaaaaak", -389);
    }

    private static void attemptParts() {
        IceJudge x = Check.read("judges 1;element a jump 100;element b jump 30;element c spin 20;skater s;"
                + "do a+b+b 17 g under fall;do c 119 f edge;do b+a 120 h;");
        int[][] want = {
            {17, 3, 0, 1, 1, 5, 0, 0, 128, 10, 138},
            {119, 1, 2, NONE, NONE, 2, 0, 0, 14, 0, 14},
            {120, 2, 1, 0, NONE, 0, 1, 1, 110, 20, 130},
        };
        for (int i = 0; i < want.length; i++) {
            for (int j = 0; j < want[i].length; j++) {
                int k = i;
                int what = j;
                Check.due("attempt(0, " + k + ", " + what + ")", want[i][j], () -> x.attempt(0, k, what));
            }
        }
        Check.throwsDue("attempt(0, 0, 11)", NoSuchElementException.class, () -> x.attempt(0, 0, 11));
        Check.throwsDue("attempt(0, 0, -1)", NoSuchElementException.class, () -> x.attempt(0, 0, -1));
        Check.throwsDue("attempt(0, 3, 11)", INDEX, () -> x.attempt(0, 3, 11));
    }

    private static void worthAndGain() {
        // 59: by 8/10 47.2, by 7/10 32.9, a tenth of it 3.2, each rounded down.
        IceJudge x = Check.read("judges 2;half 0;element a jump 59;element b spin 59;skater s;"
                + "do a 0 ff;do b 1 dd;do a 2 de under edge;do a 3 kk;do b 4 kk;");
        attemptDue(x, 0, 64, 0);
        attemptDue(x, 1, 59, -12);
        attemptDue(x, 2, 35, -9);
        attemptDue(x, 3, 0, 0);
        attemptDue(x, 4, 0, 0);
        IceJudge y = Check.read("judges 1;element a jump 41;element b jump 50;skater s;"
                + "do a+b 1 g under;do a+b 1 e edge;do a+b 1 k under edge;skater t;do a+b 600 e under edge;");
        attemptDue(y, 0, 72, 5);
        attemptDue(y, 1, 63, -5);
        attemptDue(y, 2, 0, 0);
        Check.due("worth, late", 55, () -> y.attempt(1, 0, 8));
        Check.due("points, late", 50, () -> y.attempt(1, 0, 10));
    }

    private static void attemptDue(IceJudge x, int k, int worth, int gain) {
        Check.due("worth of " + k, worth, () -> x.attempt(0, k, 8));
        Check.due("gain of " + k, gain, () -> x.attempt(0, k, 9));
        Check.due("points of " + k, worth + gain, () -> x.attempt(0, k, 10));
    }

    private static void struck() {
        String ahead = "judges 1;element a jump 10;element b jump 20;element c spin 30;element d steps 40;";
        String tries = "skater s;do a+a+b 1 f;do c 2 f;do a+b+a 3 f;do c 4 f;do d 5 f;do d 6 f;do b+b 7 f;"
                + "skater t;do a 1 f;";
        int[][] want = {{2, 0, 7, 1, 0, 1, 3}, {0, 0, 5, 1, 0, 1, 3}, {0, 0, 4, 1, 0, 1, 2}};
        for (int repeat = 1; repeat <= 3; repeat++) {
            IceJudge x = Check.read("repeat " + repeat + ";" + ahead + tries);
            for (int i = 0; i < 7; i++) {
                int k = i;
                int due = want[repeat - 1][i];
                Check.due("struck of " + k + " by repeat " + repeat, due, () -> x.attempt(0, k, 7));
            }
            Check.due("struck of another skater", 0, () -> x.attempt(1, 0, 7));
        }
    }

    private static void lateness() {
        IceJudge x = Check.read("judges 1;half 60;late 50;element a jump 10;element c spin 30;skater s;"
                + "do a 59 f;do a 60 f;do c 60 f;do a 61 f;");
        int[] late = {0, 1, 0, 1};
        int[] worth = {10, 15, 30, 0};
        for (int i = 0; i < 4; i++) {
            int k = i;
            Check.due("late " + k, late[i], () -> x.attempt(0, k, 6));
            Check.due("worth " + k, worth[i], () -> x.attempt(0, k, 8));
        }
        IceJudge y = Check.read("judges 1;half 60;late 0;element a jump 10;skater s;do a 600 f;");
        Check.due("late by 0 hundredths", 1, () -> y.attempt(0, 0, 6));
        Check.due("worth, late by 0 hundredths", 10, () -> y.attempt(0, 0, 8));
    }

    private static void components() {
        IceJudge x = Check.read("judges 3;drop 0;factor 33 300 0;skater s;show abb kkj kkk;skater t;");
        Check.due("component(0, 0)", 21, () -> x.component(0, 0));
        Check.due("component(0, 1)", 2898, () -> x.component(0, 1));
        Check.due("component(0, 2)", 0, () -> x.component(0, 2));
        Check.due("shown", 2919, () -> x.total(0, 1));
        Check.due("component without show", 0, () -> x.component(1, 1));
        Check.due("mark without show", 0, () -> x.mark(1, 2, 2));
        Check.throwsDue("component(0, 3)", INDEX, () -> x.component(0, 3));
        Check.throwsDue("component(0, -1)", INDEX, () -> x.component(0, -1));
        Check.throwsDue("component(2, 0)", INDEX, () -> x.component(2, 0));
    }

    private static void totals() {
        IceJudge x = Check.read("judges 1;element a jump 1000;skater s;do a 1 g;do a 2 e fall;show b b b;"
                + "skater t;do a 1 a fall;show a a a;deduct 450;");
        int[][] want = {{2000, 300, 1, 450, 1750}, {500, 0, 1, 450, 0}};
        for (int i = 0; i < 2; i++) {
            for (int j = 0; j < 5; j++) {
                int skater = i;
                int what = j;
                Check.due("total(" + i + ", " + j + ")", want[i][j], () -> x.total(skater, what));
            }
        }
        Check.throwsDue("total(0, 5)", NoSuchElementException.class, () -> x.total(0, 5));
        Check.throwsDue("total(0, -1)", NoSuchElementException.class, () -> x.total(0, -1));
        Check.throwsDue("total(2, 5)", INDEX, () -> x.total(2, 5));
        Check.throwsDue("total(-1, 0)", INDEX, () -> x.total(-1, 0));
        IceJudge y = Check.read("skater s;deduct 1;");
        Check.due("a total is not below 0", 0, () -> y.total(0, 4));
        IceJudge z = Check.read("judges 1;element a jump 100;skater s;do a 1 f fall;");
        Check.due("100 less 100", 0, () -> z.total(0, 4));
    }

    private static void ruleDue(String rule, int want) {
        IceJudge x = Check.read("deduct " + rule + ";skater s;lasts 7;");
        Check.due("rule " + rule, want, () -> x.rule(0, 0));
        Check.due("deducted by " + rule, want, () -> x.total(0, 3));
    }

    private static void ruleSums() {
        ruleDue("1+2*3", 7);
        ruleDue("2*3+1", 7);
        ruleDue("(1+2)*3", 9);
        ruleDue("10-2-3", 5);
        ruleDue("10-(2-3)", 11);
        ruleDue("1-2*3+10*2*2", 35);
        ruleDue("2*(3+4*(5-(6-time)))*1", 54);
        ruleDue("5-6", 0);
        ruleDue("9999", 9999);
        ruleDue("9999+1", 9999);
        ruleDue("9999*9999-9999*100", 100);
        ruleDue("9999*9999-9999*9999", 0);
        ruleDue("9999*9999*2-9990*100", 1000);
        ruleDue("(0-9999)*9999+9999*100+200", 100);
        ruleDue("1000*1000+1-999*1000", 1000);
        ruleDue("0-1000*1000-5+1000*1000+5", 5);
        ruleDue("time*time*time", 343);
        ruleDue("1+2*(1+2*(1+2*(1+2*(1+2*time))))", 31 + 32 * 7);
        ruleDue("5 if 1=2 or 1=1 and 255<1+2*(1+2*(1+2*(1+2*(1+2*time))))", 0);
        ruleDue("5 if 1=2 or 1=1 and 254<1+2*(1+2*(1+2*(1+2*(1+2*time))))", 5);
    }

    private static void rulesReadOften() {
        String longRule = "deduct time" + "+1".repeat(280) + ";skater s;lasts 7;";
        IceJudge x = new IceJudge();
        for (int i = 0; i < 9; i++) {
            Check.put(x, longRule);
            Check.due("read()", 1, x::read);
            Check.due("a long rule", 287, () -> x.rule(0, 0));
        }
    }

    private static void ruleTests() {
        ruleDue("5 if 1<2", 5);
        ruleDue("5 if 2<2", 0);
        ruleDue("5 if 2=2", 5);
        ruleDue("5 if 2=3", 0);
        ruleDue("5 if 3>2", 5);
        ruleDue("5 if 2>2", 0);
        ruleDue("5 if 1=2 and 1=1 or 1=1", 5);
        ruleDue("5 if 1=1 or 1=1 and 1=2", 5);
        ruleDue("5 if 1=2 or 1=1 and 1=2", 0);
        ruleDue("5 if 1=2 or 1=2 or 1=1", 5);
        ruleDue("5 if 1=1 and 1=1 and 1=2", 0);
        ruleDue("5 if 1=2 and 1=2 or 1=2 and 1=1", 0);
        ruleDue("5 if 1=1 and 1=2 or 1=1 and 1=1 or 1=2", 5);
        ruleDue("5 if 1=1 and 1=1 or 1=2 and 1=2", 5);
        ruleDue("5 if 1-2<0 and time+1=2*4", 5);
        ruleDue("0-5 if 1=1", 0);
    }

    private static void ruleWords() {
        String text = "judges 1;half 50;element a jump 9;element b spin 9;element c steps 9;skater s;lasts 77;"
                + "do a+a 1 f fall;do a+a 50 f fall under;do b 51 f edge fall;do b 52 f under;do c 53 f;do a 54 f under;"
                + "skater t;";
        String[] words = {"falls", "time", "tries", "jumps", "spins", "steps", "late", "struck", "unders", "edges"};
        int[] want = {3, 77, 6, 5, 2, 1, 2, 4, 3, 1};
        for (int i = 0; i < words.length; i++) {
            IceJudge x = Check.read(text + "deduct " + words[i] + ";");
            int due = want[i];
            Check.due(words[i], due, () -> x.rule(0, 0));
            Check.due(words[i] + " of one who does nothing", 0, () -> x.rule(1, 0));
        }
        IceJudge x = Check.read(text + "deduct 1;deduct 2;deduct 3;deduct 4;deduct 5;deduct tries;");
        for (int i = 0; i < 6; i++) {
            int r = i;
            Check.due("rule(0, " + r + ")", r + 1, () -> x.rule(0, r));
        }
        Check.due("deducted by all", 21, () -> x.total(0, 3));
        Check.throwsDue("rule(0, 6)", NoSuchElementException.class, () -> x.rule(0, 6));
        Check.throwsDue("rule(0, -1)", NoSuchElementException.class, () -> x.rule(0, -1));
        Check.throwsDue("rule(2, 6)", INDEX, () -> x.rule(2, 6));
    }

    private static void ranks() {
        // Totals 200, 300, 200, 200, 0, 0; points 100, 300, 200, 100, 0, 100 (100 of them for a fall).
        IceJudge x = Check.read("judges 1;element a jump 100;element b spin 300;element c steps 200;"
                + "skater p;do a 1 f;show b a a;skater q;do b 1 f;skater r;do c 1 f;"
                + "skater s;do a 1 f;show a b a;skater t;skater u;do a 1 f fall;");
        int[] order = {1, 2, 0, 3, 5, 4};
        for (int i = 0; i < 6; i++) {
            int rank = i;
            int skater = order[i];
            Check.due("rank(" + skater + ")", rank, () -> x.rank(skater));
            Check.due("ranked(" + rank + ")", skater, () -> x.ranked(rank));
        }
        Check.due("ranked(6)", NONE, () -> x.ranked(6));
        Check.due("ranked(-1)", NONE, () -> x.ranked(-1));
        Check.throwsDue("rank(6)", INDEX, () -> x.rank(6));
        Check.throwsDue("rank(-1)", INDEX, () -> x.rank(-1));
    }

    private static void wrongInputs() {
        IceJudge x = Check.read("judges 2;element a jump 100;skater s;do a 1 fg;");
        int[] wrong = {-1, 2, Integer.MIN_VALUE, Integer.MAX_VALUE};
        for (int w : wrong) {
            Check.throwsDue("attempt(" + w + ", 0, 0)", INDEX, () -> x.attempt(w, 0, 0));
            Check.throwsDue("attempt(0, " + w + ", 0)", INDEX, () -> x.attempt(0, w, 0));
            Check.throwsDue("grade(" + w + ", 0, 0)", INDEX, () -> x.grade(w, 0, 0));
            Check.throwsDue("grade(0, " + w + ", 0)", INDEX, () -> x.grade(0, w, 0));
            Check.throwsDue("grade(0, 0, " + w + ")", INDEX, () -> x.grade(0, 0, w));
            Check.throwsDue("mean(" + w + ", 0)", INDEX, () -> x.mean(w, 0));
            Check.throwsDue("mean(0, " + w + ")", INDEX, () -> x.mean(0, w));
            Check.throwsDue("mark(" + w + ", 0, 0)", INDEX, () -> x.mark(w, 0, 0));
            Check.throwsDue("mark(0, 0, " + w + ")", INDEX, () -> x.mark(0, 0, w));
        }
        Check.throwsDue("mark(0, 3, 0)", INDEX, () -> x.mark(0, 3, 0));
        Check.throwsDue("mark(0, -1, 0)", INDEX, () -> x.mark(0, -1, 0));
        Check.due("grade(0, 0, 1)", 1, () -> x.grade(0, 0, 1));
        Check.due("mean(0, 0)", 50, () -> x.mean(0, 0));
    }
}
