import java.util.Arrays;

/** "Terms", 2: what is trimmed, struck, late, rounded, kept within bounds and set ahead, on both sides of each bound. */
public final class ScoreBoundsTest {
    private static final String SKATER = "skater s;";
    // How many are left of 1 to 9 judges, by DROP 0 to 3.
    private static final int[][] LEFT = {
        {1, 1, 1, 1}, {2, 2, 2, 2}, {3, 1, 1, 1}, {4, 2, 2, 2}, {5, 3, 1, 1}, {6, 4, 2, 2}, {7, 5, 3, 1}, {8, 6, 4, 2}, {9, 7, 5, 3},
    };

    public static void main(String[] args) {
        fewerIfNoneWereLeft();
        trimmedOfMarks();
        trimmedOfAPanel();
        trimmedRoundedDown();
        struckJumps();
        struckOthers();
        struckInItsOwn();
        struckOfOthers();
        late();
        lateBeginsWithAJump();
        worthRoundedDown();
        gainWithout();
        gainRoundedDown();
        shownRoundedDown();
        amountsFromZero();
        sumsKeptWithin();
        testsKeptWithin();
        relations();
        andBeforeOr();
        totalZeroAtLeast();
        aheadOfLikeOnes();
        Check.finish();
    }

    private static int mean(int[] votes, int left) {
        int[] sorted = votes.clone();
        Arrays.sort(sorted);
        int out = (votes.length - left) / 2;
        int together = 0;
        for (int i = out; i < out + left; i++) {
            together += sorted[i];
        }
        return Math.floorDiv(100 * together, left);
    }

    private static int[] votesOf(String letters, int least) {
        int[] votes = new int[letters.length()];
        for (int i = 0; i < votes.length; i++) {
            votes[i] = letters.charAt(i) - 'a' + least;
        }
        return votes;
    }

    private static void fewerIfNoneWereLeft() {
        Check.says("fewer of both, if else none were left: as many as leave one or two");
        String[] rows = {"kabgcjdfe", "aaaaakkkk", "kbbbbbbba", "edcbafghk"};
        for (String row : rows) {
            for (int n = 1; n <= 9; n++) {
                for (int drop = 0; drop <= 3; drop++) {
                    String grades = row.substring(0, n);
                    String text = "judges " + n + ";drop " + drop + ";element a jump 5;skater s;do a 1 " + grades + ";";
                    Check.asked(text, "mean(0, 0)", mean(votesOf(grades, -5), LEFT[n - 1][drop]), x -> x.mean(0, 0));
                }
            }
        }
        Check.asked("judges 4;drop 1;element a jump 5;skater s;do a 1 afgk;", "mean(0, 0)", 50, x -> x.mean(0, 0));
        Check.asked("judges 4;drop 2;element a jump 5;skater s;do a 1 afgk;", "mean(0, 0)", 50, x -> x.mean(0, 0));
        Check.asked("judges 4;drop 0;element a jump 5;skater s;do a 1 affk;", "mean(0, 0)", 0, x -> x.mean(0, 0));
        Check.asked("judges 2;drop 3;element a jump 5;skater s;do a 1 fk;", "mean(0, 0)", 250, x -> x.mean(0, 0));
    }

    private static void trimmedOfMarks() {
        Check.says("TRIMMED of numbers, one of each JUDGE");
        String row = "kabgcjdfe";
        for (int n = 1; n <= 9; n++) {
            for (int drop = 0; drop <= 3; drop++) {
                String marks = row.substring(0, n);
                String none = "a".repeat(n);
                int want = mean(votesOf(marks, 0), LEFT[n - 1][drop]);
                String ahead = "judges " + n + ";drop " + drop + ";skater s;show ";
                Check.asked(ahead + marks + " " + none + " " + none + ";", "component(0, 0)", want, x -> x.component(0, 0));
                Check.asked(ahead + none + " " + none + " " + marks + ";", "component(0, 2)", want, x -> x.component(0, 2));
            }
        }
    }

    private static void trimmedOfAPanel() {
        Check.says("By a PANEL (some of the JUDGES): all TRIMMED are of theirs alone");
        String row = "kabgcjdfe";
        for (int drop = 0; drop <= 3; drop++) {
            IceJudge x = Check.read("judges 9;drop " + drop + ";skater s;show " + row + " aaaaaaaaa aaaaaaaaa;");
            for (int panel = 1; panel < 512; panel++) {
                StringBuilder marks = new StringBuilder();
                for (int judge = 0; judge < 9; judge++) {
                    marks.append((panel >> judge & 1) != 0 ? row.substring(judge, judge + 1) : "");
                }
                int some = panel;
                int want = mean(votesOf(marks.toString(), 0), LEFT[marks.length() - 1][drop]);
                Check.due("by(0, " + panel + ") with drop " + drop, want, () -> x.by(0, some));
            }
        }
    }

    private static void trimmedRoundedDown() {
        Check.says("100 times what is left, together, by how many are left, rounded down");
        String[] grades = {"ffg", "fgg", "ggg", "fff", "ffe", "fee", "eee", "aab", "kkj"};
        int[] want = {33, 66, 100, 0, -34, -67, -100, -467, 466};
        for (int i = 0; i < grades.length; i++) {
            String text = "judges 3;drop 0;element a jump 5;skater s;do a 1 " + grades[i] + ";";
            Check.asked(text, "mean(0, 0)", want[i], x -> x.mean(0, 0));
        }
    }

    private static void struckJumps() {
        Check.says("STRUCK, if it stands in ATTEMPTS ahead .. as often as it may: a jump REPEAT times");
        for (int repeat = 1; repeat <= 3; repeat++) {
            String text = "judges 1;repeat " + repeat + ";element a jump 5;deduct struck;skater s;" + "do a 1 f;".repeat(5);
            for (int i = 0; i < 5; i++) {
                int k = i;
                Check.asked(text, "struck of " + i, i < repeat ? 0 : 1, x -> x.attempt(0, k, 7));
                Check.asked(text, "WORTH of " + i, i < repeat ? 5 : 0, x -> x.attempt(0, k, 8));
            }
            Check.asked(text, "struck", 5 - repeat, x -> x.rule(0, 0));
        }
    }

    private static void struckOthers() {
        Check.says("another one once");
        String[] kinds = {"spin", "steps"};
        for (String kind : kinds) {
            for (int repeat = 1; repeat <= 3; repeat++) {
                String text = "judges 1;repeat " + repeat + ";element a " + kind + " 5;skater s;" + "do a 1 f;".repeat(4);
                for (int i = 0; i < 4; i++) {
                    int k = i;
                    Check.asked(text, "struck of " + i, i < 1 ? 0 : 1, x -> x.attempt(0, k, 7));
                }
            }
        }
    }

    private static void struckInItsOwn() {
        Check.says("and ahead of it in its own");
        String ahead = "judges 1;element a jump 5;element b jump 7;";
        String tries = "do a+a+a 1 f;do b+a+b 1 f;do b+b 1 f;";
        int[][] want = {{6, 6, 3}, {4, 2, 3}, {0, 2, 2}};
        for (int repeat = 1; repeat <= 3; repeat++) {
            for (int i = 0; i < 3; i++) {
                int k = i;
                int due = want[repeat - 1][i];
                Check.asked("repeat " + repeat + ";" + ahead + SKATER + tries, "struck of " + i, due, x -> x.attempt(0, k, 7));
            }
        }
    }

    private static void struckOfOthers() {
        Check.says("An ELEMENT in an ATTEMPT is STRUCK, if it stands in ATTEMPTS ahead");
        String text = "judges 1;repeat 1;element a jump 5;element b jump 5;skater s;do a 1 f;do b 1 f;skater t;do a 1 f;do a 2 f;";
        Check.asked(text, "another ELEMENT", 0, x -> x.attempt(0, 1, 7));
        Check.asked(text, "another SKATER's", 0, x -> x.attempt(1, 0, 7));
        Check.asked(text, "its own", 1, x -> x.attempt(1, 1, 7));
        IceJudge x = Check.read(text);
        x.scratch(1, 0);
        Check.due("behind one that is SCRATCHED", 0, () -> x.attempt(1, 1, 7));
    }

    private static void late() {
        Check.says("its time is not less than HALF");
        int[] halves = {0, 1, 120, 599, 600};
        for (int half : halves) {
            for (int time = Math.max(0, half - 1); time <= Math.min(600, half + 1); time++) {
                String text = "judges 1;half " + half + ";late 50;deduct late;element a jump 10;skater s;do a " + time + " f;";
                boolean late = time >= half;
                Check.asked(text, "LATE", late ? 1 : 0, x -> x.attempt(0, 0, 6));
                Check.asked(text, "WORTH", late ? 15 : 10, x -> x.attempt(0, 0, 8));
                Check.asked(text, "late", late ? 1 : 0, x -> x.rule(0, 0));
            }
        }
    }

    private static void lateBeginsWithAJump() {
        Check.says("LATE, if its first ELEMENT is a jump");
        String[] kinds = {"jump", "spin", "steps"};
        for (int i = 0; i < 3; i++) {
            String text = "judges 1;half 1;late 50;deduct late;element a " + kinds[i] + " 10;skater s;do a 1 f;";
            Check.asked(text, "LATE", i == 0 ? 1 : 0, x -> x.attempt(0, 0, 6));
            Check.asked(text, "WORTH", i == 0 ? 15 : 10, x -> x.attempt(0, 0, 8));
            Check.asked(text, "late", i == 0 ? 1 : 0, x -> x.rule(0, 0));
        }
        String struck = "judges 1;half 9;repeat 1;late 50;element a jump 10;element b jump 6;skater s;do a 1 f;do a+b 9 f;";
        Check.asked(struck, "LATE with a first one that is STRUCK", 1, x -> x.attempt(0, 1, 6));
        Check.asked(struck, "WORTH with a first one that is STRUCK", 9, x -> x.attempt(0, 1, 8));
    }

    private static void worthRoundedDown() {
        Check.says("called under times 8 by 10, then called edge times 7 by 10, then, if it is LATE, LATE hundredths ..; each rounded down");
        String ahead = "judges 1;half 9;late 19;element a jump ";
        String[] tries = {"do a 1 f;", "do a 1 f under;", "do a 1 f edge;", "do a 1 f under edge;", "do a 9 f;",
            "do a 9 f under;", "do a 9 f edge;", "do a 9 f under edge;"};
        int[] bases = {0, 1, 9, 10, 59, 2000};
        int[][] want = {
            {0, 0, 0, 0, 0, 0, 0, 0},
            {1, 0, 0, 0, 1, 0, 0, 0},
            {9, 7, 6, 4, 10, 8, 7, 4},
            {10, 8, 7, 5, 11, 9, 8, 5},
            {59, 47, 41, 32, 70, 55, 48, 38},
            {2000, 1600, 1400, 1120, 2380, 1904, 1666, 1332},
        };
        for (int i = 0; i < bases.length; i++) {
            for (int j = 0; j < tries.length; j++) {
                Check.asked(ahead + bases[i] + ";skater s;" + tries[j], "WORTH", want[i][j], x -> x.attempt(0, 0, 8));
            }
        }
        Check.asked("judges 1;element a jump 3;element b jump 6;skater s;do a+b 1 f under edge;", "WORTH of both together", 4,
                x -> x.attempt(0, 0, 8));
    }

    private static void gainWithout() {
        Check.says("the greatest BASE of its ELEMENTS that are not STRUCK (0 without)");
        String ahead = "judges 1;repeat 1;element a jump 100;element b jump 50;element c jump 10;skater s;";
        Check.asked(ahead + "do c+a+b 1 k;", "GAIN", 50, x -> x.attempt(0, 0, 9));
        Check.asked(ahead + "do a 1 f;do c+a+b 1 k;", "GAIN", 25, x -> x.attempt(0, 1, 9));
        Check.asked(ahead + "do a+b 1 f;do c+a+b 1 k;", "GAIN", 5, x -> x.attempt(0, 1, 9));
        Check.asked(ahead + "do c+a+b 1 f;do c+a+b 1 k;", "GAIN", 0, x -> x.attempt(0, 1, 9));
        Check.asked(ahead + "do c+a+b 1 f;do c+a+b 1 a;", "GAIN", 0, x -> x.attempt(0, 1, 9));
        Check.asked(ahead + "do c+a+b 1 f;do c+a+b 1 a;", "POINTS", 0, x -> x.attempt(0, 1, 10));
        Check.asked(ahead + "do a+b 1 k under edge;", "GAIN of one that is called", 50, x -> x.attempt(0, 0, 9));
    }

    private static void gainRoundedDown() {
        Check.says("times TRIMMED of its GRADES by 1000, rounded down");
        int[] bases = {0, 1, 9, 10, 11, 19, 20, 2000};
        int[] plus = {0, 0, 0, 1, 1, 1, 2, 200};
        int[] minus = {0, -1, -1, -1, -2, -2, -2, -200};
        for (int i = 0; i < bases.length; i++) {
            String ahead = "judges 1;element a spin " + bases[i] + ";skater s;do a 1 ";
            Check.asked(ahead + "g;", "GAIN by 1", plus[i], x -> x.attempt(0, 0, 9));
            Check.asked(ahead + "e;", "GAIN by -1", minus[i], x -> x.attempt(0, 0, 9));
            Check.asked(ahead + "f;", "GAIN by 0", 0, x -> x.attempt(0, 0, 9));
        }
        Check.asked("judges 1;element a spin 2000;skater s;do a 1 a;", "GAIN by -5", -1000, x -> x.attempt(0, 0, 9));
        Check.asked("judges 1;element a spin 2000;skater s;do a 1 k;", "GAIN by 5", 1000, x -> x.attempt(0, 0, 9));
        Check.asked("judges 3;drop 0;element a spin 100;skater s;do a 1 ffe;", "GAIN by -34", -4, x -> x.attempt(0, 0, 9));
        Check.asked("judges 3;drop 0;element a spin 100;skater s;do a 1 ffg;", "GAIN by 33", 3, x -> x.attempt(0, 0, 9));
    }

    private static void shownRoundedDown() {
        Check.says("SHOWN: of each COMPONENT TRIMMED of its MARKS times FACTOR by 100, rounded down, together");
        String ahead = "judges 3;drop 0;skater s;show aab abb kkk;factor ";
        int[] factors = {0, 1, 3, 4, 99, 100, 101, 300};
        int[][] want = {{0, 0, 0}, {0, 0, 10}, {0, 1, 30}, {1, 2, 40}, {32, 65, 990}, {33, 66, 1000}, {33, 66, 1010}, {99, 198, 3000}};
        for (int i = 0; i < factors.length; i++) {
            int f = factors[i];
            String text = ahead + f + " " + f + " " + f + ";";
            int[] due = want[i];
            for (int c = 0; c < 3; c++) {
                int component = c;
                Check.asked(text, "component(0, " + c + ")", due[c], x -> x.component(0, component));
            }
            Check.asked(text, "SHOWN", due[0] + due[1] + due[2], x -> x.total(0, 1));
        }
        Check.asked("skater s;", "SHOWN without show", 0, x -> x.total(0, 1));
    }

    private static void ruleDue(String rule, int want) {
        Check.asked("deduct " + rule + ";skater s;lasts 7;", "rule(0, 0)", want, x -> x.rule(0, 0));
    }

    private static void amountsFromZero() {
        Check.says("its SUM, from 0 to 9999 (what is below, above is that), together");
        ruleDue("0", 0);
        ruleDue("1", 1);
        ruleDue("1-1", 0);
        ruleDue("1-2", 0);
        ruleDue("0-1000*1000", 0);
        ruleDue("9998", 9998);
        ruleDue("9999", 9999);
        ruleDue("9998+1", 9999);
        ruleDue("9999+1", 9999);
        ruleDue("100*100", 9999);
        ruleDue("1000*1000", 9999);
        ruleDue("0-5+7", 2);
        Check.asked("deduct 0-5;deduct 5;skater s;", "DEDUCTED", 5, x -> x.total(0, 3));
        Check.asked("deduct 9999+5;deduct 9999;deduct 0-9;skater s;", "DEDUCTED", 19998, x -> x.total(0, 3));
        Check.asked("deduct 9999;".repeat(6) + "skater s;", "DEDUCTED", 59994, x -> x.total(0, 3));
        Check.asked("skater s;", "DEDUCTED without a RULE", 0, x -> x.total(0, 3));
        Check.asked("deduct 9 if 1=2;deduct 8 if 1=1;deduct 7;skater s;", "DEDUCTED", 15, x -> x.total(0, 3));
        Check.asked("deduct 9 if 1=2;skater s;", "a RULE whose TEST does not hold", 0, x -> x.rule(0, 0));
    }

    private static void sumsKeptWithin() {
        Check.says("Each + - * is kept within -1000000 to 1000000");
        ruleDue("999*1001-9999*100", 99);
        ruleDue("1000*1000-9999*100", 100);
        ruleDue("1000*1001-9999*100", 100);
        ruleDue("9999*9999*9999-9999*100", 100);
        ruleDue("9999*9999*(9999*9999)-9999*100", 100);
        ruleDue("999*1001+1-9999*100", 100);
        ruleDue("999*1001+2-9999*100", 100);
        ruleDue("1000*1000+1-9999*100", 100);
        ruleDue("1000*1000+1000*1000-9999*100", 100);
        ruleDue("200+((0-999)*1001+9999*100)", 101);
        ruleDue("200+((0-1000)*1000+9999*100)", 100);
        ruleDue("200+((0-1000)*1001+9999*100)", 100);
        ruleDue("200+((0-9999)*9999*9999+9999*100)", 100);
        ruleDue("200+(0-999*1001+9999*100)", 101);
        ruleDue("200+(0-999*1001-1+9999*100)", 100);
        ruleDue("200+(0-999*1001-2+9999*100)", 100);
        ruleDue("200+(0-1000*1000-1000*1000+9999*100)", 100);
        ruleDue("(0-1000)*(0-1001)-9999*100", 100);
        ruleDue("1000*1000+5-5-9999*100", 95);
        ruleDue("0-1000*1000-5+5+1000*1000", 5);
    }

    private static void testsKeptWithin() {
        Check.says("Each + - * is kept within -1000000 to 1000000");
        ruleDue("7 if 1000*1001=1000*1000", 7);
        ruleDue("7 if 999*1001=1000*1000", 0);
        ruleDue("7 if 1000*1000+1>1000*1000", 0);
        ruleDue("7 if 0-1000*1000-1<0-1000*1000", 0);
        ruleDue("7 if 0-999*1001-1=0-1000*1000", 7);
        ruleDue("7 if 5-9<0", 7);
    }

    private static void relations() {
        Check.says("FACT: SUM < SUM, SUM = SUM or SUM > SUM");
        for (int v = 6; v <= 8; v++) {
            ruleDue("5 if time<" + v, 7 < v ? 5 : 0);
            ruleDue("5 if time=" + v, 7 == v ? 5 : 0);
            ruleDue("5 if time>" + v, 7 > v ? 5 : 0);
            ruleDue("5 if " + v + "<time", v < 7 ? 5 : 0);
            ruleDue("5 if " + v + ">time", v > 7 ? 5 : 0);
        }
    }

    private static void andBeforeOr() {
        Check.says("TEST: PART { or PART }; PART: FACT { and FACT }");
        String[] facts = {"1=2", "1=1"};
        for (int bits = 0; bits < 32; bits++) {
            boolean[] is = new boolean[5];
            String[] f = new String[5];
            for (int i = 0; i < 5; i++) {
                is[i] = (bits >> i & 1) != 0;
                f[i] = facts[bits >> i & 1];
            }
            ruleDue("5 if " + f[0] + " or " + f[1] + " and " + f[2] + " or " + f[3] + " and " + f[4],
                    is[0] || is[1] && is[2] || is[3] && is[4] ? 5 : 0);
            ruleDue("5 if " + f[0] + " and " + f[1] + " or " + f[2] + " or " + f[3] + " and " + f[4],
                    is[0] && is[1] || is[2] || is[3] && is[4] ? 5 : 0);
            ruleDue("5 if " + f[0] + " and " + f[1] + " and " + f[2] + " or " + f[3] + " or " + f[4],
                    is[0] && is[1] && is[2] || is[3] || is[4] ? 5 : 0);
            ruleDue("5 if " + f[0] + " or " + f[1] + " or " + f[2] + " and " + f[3] + " and " + f[4],
                    is[0] || is[1] || is[2] && is[3] && is[4] ? 5 : 0);
        }
    }

    private static void totalZeroAtLeast() {
        Check.says("TOTAL: POINTS and SHOWN less 100 times FALLS and DEDUCTED, 0 at least");
        String ahead = "judges 1;element a jump 150;skater s;do a 1 f fall;show b a a;deduct ";
        int[] deducted = {0, 1, 149, 150, 151, 9999};
        int[] want = {150, 149, 1, 0, 0, 0};
        for (int i = 0; i < deducted.length; i++) {
            Check.asked(ahead + deducted[i] + ";", "TOTAL", want[i], x -> x.total(0, 4));
            Check.asked(ahead + deducted[i] + ";", "TOTAL by one", want[i], x -> x.alone(0, 0));
        }
        Check.asked("judges 1;element a jump 0;skater s;do a 1 f fall;", "TOTAL", 0, x -> x.total(0, 4));
        Check.asked("judges 1;element a jump 0;skater s;do a 1 f fall;", "POINTS", 0, x -> x.total(0, 0));
        String low = "judges 1;element a spin 10;element b spin 90;skater s;do a 1 f;do b 1 f;do a 1 a;show a b a;";
        Check.asked(low, "POINTS", 100, x -> x.total(0, 0));
        Check.asked(low, "TOTAL", 200, x -> x.total(0, 4));
    }

    private static void aheadOfLikeOnes() {
        Check.says("AHEAD of another one is a SKATER with the greater TOTAL, of like ones with the greater POINTS, then the lesser number");
        String ahead = "judges 1;element a jump 300;element b jump 301;element c jump 200;";
        ranksDue(ahead + "skater s;do a 1 f;skater t;do b 1 f;", 1, 0);
        ranksDue(ahead + "skater s;do b 1 f;skater t;do a 1 f;", 0, 1);
        ranksDue(ahead + "skater s;do a 1 f;skater t;do a 1 f;", 0, 1);
        ranksDue(ahead + "skater s;do c 1 f;show b a a;skater t;do a 1 f;", 1, 0);
        ranksDue(ahead + "skater s;do a 1 f;skater t;do c 1 f;show b a a;", 0, 1);
        ranksDue(ahead + "skater s;do a 1 f;skater t;do c 1 f;show b a a;factor 101 0 0;", 1, 0);
        ranksDue(ahead + "deduct 9999;skater s;do a 1 f;skater t;do b 1 f;", 1, 0);
        ranksDue(ahead + "deduct 9999;skater s;do a 1 f;skater t;do a 1 f;show k k k;", 0, 1);
        ranksDue("skater s;skater t;", 0, 1);
        String six = "skater a;skater b;skater c;skater d;skater e;skater f;";
        for (int i = 0; i < 6; i++) {
            int skater = i;
            Check.asked(six, "rank of " + i + " of six alike", i, x -> x.rank(skater));
            Check.asked(six, "ranked " + i + " of six alike", i, x -> x.ranked(skater));
        }
    }

    private static void ranksDue(String text, int first, int second) {
        Check.asked(text, "rank(0)", first, x -> x.rank(0));
        Check.asked(text, "rank(1)", second, x -> x.rank(1));
        Check.asked(text, "ranked(0)", first == 0 ? 0 : 1, x -> x.ranked(0));
        Check.asked(text, "ranked(1)", first == 0 ? 1 : 0, x -> x.ranked(1));
    }
}
