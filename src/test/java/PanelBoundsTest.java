/** "Terms", 3, of judges and panels: the first of several, more than half, pairs, draws that wrap round. */
public final class PanelBoundsTest {
    private static final int NONE = IceJudge.NONE;
    private static final Class<IndexOutOfBoundsException> INDEX = IndexOutOfBoundsException.class;
    private static final Class<IllegalArgumentException> ARGUMENT = IllegalArgumentException.class;
    private static final Class<IllegalStateException> STATE = IllegalStateException.class;

    public static void main(String[] args) {
        biasOverAll();
        oddFirstOfSeveral();
        noOtherJudge();
        swaysOfPairs();
        placesByOneAlone();
        moreThanHalf();
        moreJudgesThere();
        lessTogether();
        lessTogetherOfNine();
        lesserNumber();
        drawsWrapRound();
        drawsOfAll();
        sizesOfPanels();
        panelsOfNone();
        firstsOfAll();
        sixByNine();
        Check.finish();
    }

    private static void biasOverAll() {
        Check.says("BIAS of a JUDGE: over all ATTEMPTS of all SKATERS 100 times his grade less TRIMMED (of all JUDGES), together");
        Check.asked("judges 3;skater s;", "bias(2) without ATTEMPTS", 0, x -> x.bias(2));
        Check.asked("judges 1;element a jump 5;skater s;do a 1 k;", "bias(0) of the only one", 0, x -> x.bias(0));
        String text = "judges 3;drop 0;element a jump 5;skater s;do a 1 ffg;do a 1 kfa;skater t;skater u;do a 1 eef;";
        Check.asked(text, "bias(0)", -33 + 500 - 33, x -> x.bias(0));
        Check.asked(text, "bias(1)", -33 + 0 - 33, x -> x.bias(1));
        Check.asked(text, "bias(2)", 67 - 500 + 67, x -> x.bias(2));
        Check.refused(text, "bias(3)", INDEX, x -> x.bias(3));
        Check.refused(text, "bias(-1)", INDEX, x -> x.bias(-1));
        Check.asked("judges 9;", "bias(8)", 0, x -> x.bias(8));
        Check.refused("judges 9;", "bias(9)", INDEX, x -> x.bias(9));
    }

    private static void oddFirstOfSeveral() {
        Check.says("ODD: the JUDGE whose BIAS is farthest from 0, of several the first");
        String ahead = "element a jump 5;skater s;do a 1 ";
        String[] grades = {"fffff", "kffff", "ffffk", "affff", "fffaf", "fkfaf", "fafkf", "fffka", "jfffa", "bfffk", "kffka"};
        int[] odd = {0, 0, 4, 0, 3, 1, 1, 3, 4, 4, 0};
        for (int i = 0; i < grades.length; i++) {
            Check.asked("drop 2;" + ahead + grades[i] + ";", "odd()", odd[i], IceJudge::odd);
        }
        Check.asked("judges 1;" + ahead + "k;", "odd()", 0, IceJudge::odd);
        Check.asked("judges 9;skater s;", "odd() without ATTEMPTS", 0, IceJudge::odd);
    }

    private static void noOtherJudge() {
        Check.says("IllegalStateException: there is no other one");
        String one = "judges 1;skater s;show k k k;";
        String two = "judges 2;skater s;show ka ka ka;";
        Check.refused(one, "without(0, 0)", STATE, x -> x.without(0, 0));
        Check.refused(one, "without(0, 1)", INDEX, x -> x.without(0, 1));
        Check.refused(one, "without(0, -1)", INDEX, x -> x.without(0, -1));
        Check.refused(one, "without(1, 0)", INDEX, x -> x.without(1, 0));
        Check.asked(two, "without(0, 0)", 0, x -> x.without(0, 0));
        Check.asked(two, "without(0, 1)", 3000, x -> x.without(0, 1));
        Check.refused(two, "without(0, 2)", INDEX, x -> x.without(0, 2));
        Check.refused(one, "sways(0)", STATE, x -> x.sways(0));
        Check.refused(one, "sways(1)", INDEX, x -> x.sways(1));
        Check.refused(one, "sways(-1)", INDEX, x -> x.sways(-1));
        Check.asked(two, "sways(0)", 0, x -> x.sways(0));
        Check.asked(two, "sways(1)", 0, x -> x.sways(1));
        Check.refused(two, "sways(2)", INDEX, x -> x.sways(2));
        Check.refused("judges 1;", "sways(0) without SKATERS", STATE, x -> x.sways(0));
        Check.asked("judges 2;", "sways(1) without SKATERS", 0, x -> x.sways(1));
    }

    private static void swaysOfPairs() {
        Check.says("SWAYS: how many pairs of SKATERS stand the other way round (one AHEAD of the other) WITHOUT him");
        // Two judges, the second of whom sets all six the other way round, with ten times the weight.
        String text = "judges 2;drop 0;skater a;show aa aa aa;skater b;show bj aa aa;skater c;show ci aa aa;"
                + "skater d;show dg aa aa;skater e;show ee aa aa;skater f;show fc aa aa;";
        // All: 0, 500, 500, 450, 400, 350; by the first alone 0 100 .. 500; by the second alone 0 900 800 600 400 200.
        Check.asked(text, "sways(1)", 10, x -> x.sways(1));
        Check.asked(text, "sways(0)", 0, x -> x.sways(0));
        String like = "judges 2;drop 0;skater a;show ba aa aa;skater b;show ab aa aa;";
        Check.asked(like, "sways(0) of like ones", 1, x -> x.sways(0));
        Check.asked(like, "sways(1) of like ones", 0, x -> x.sways(1));
        Check.asked("judges 2;skater a;show ba aa aa;", "sways(0) of one SKATER", 0, x -> x.sways(0));
        String three = "judges 3;drop 0;skater a;show aak aaa aaa;skater b;show bba aaa aaa;";
        Check.asked(three, "sways(2)", 1, x -> x.sways(2));
        Check.asked(three, "sways(1)", 0, x -> x.sways(1));
    }

    private static void placesByOneAlone() {
        Check.says("PLACE of a SKATER by a JUDGE: RANK by him alone");
        String text = "judges 2;drop 3;element a jump 100;skater s;do a 1 fk;show ba aa aa;skater t;do a 1 kf;show ab aa aa;";
        // By the first: 200 and 150; by the second: 150 and 200.
        Check.asked(text, "alone(0, 0)", 200, x -> x.alone(0, 0));
        Check.asked(text, "alone(0, 1)", 150, x -> x.alone(0, 1));
        Check.asked(text, "place(0, 0)", 0, x -> x.place(0, 0));
        Check.asked(text, "place(0, 1)", 1, x -> x.place(0, 1));
        Check.asked(text, "place(1, 0)", 1, x -> x.place(1, 0));
        Check.asked(text, "place(1, 1)", 0, x -> x.place(1, 1));
        Check.refused(text, "place(2, 0)", INDEX, x -> x.place(2, 0));
        Check.refused(text, "place(0, 2)", INDEX, x -> x.place(0, 2));
        Check.refused(text, "alone(0, 2)", INDEX, x -> x.alone(0, 2));
        Check.refused(text, "alone(0, -1)", INDEX, x -> x.alone(0, -1));
        String like = "judges 1;element a jump 100;skater s;show b a a;skater t;do a 1 f;skater u;show b a a;";
        Check.asked(like, "place(0, 0) of like ones", 1, x -> x.place(0, 0));
        Check.asked(like, "place(1, 0) of like ones", 0, x -> x.place(1, 0));
        Check.asked(like, "place(2, 0) of like ones", 2, x -> x.place(2, 0));
    }

    private static void moreThanHalf() {
        Check.says("MAJORITY of a SKATER: the least PLACE so that more than half of the JUDGES have it there or ahead of there");
        for (int judges = 1; judges <= 9; judges++) {
            for (int first = 0; first <= judges; first++) {
                // So many judges have t ahead of s.
                String marks = "b".repeat(first) + "a".repeat(judges - first);
                String none = "a".repeat(judges);
                String text = "judges " + judges + ";skater s;skater t;show " + marks + " " + none + " " + none + ";";
                Check.asked(text, "majority(1)", 2 * first > judges ? 0 : 1, x -> x.majority(1));
                Check.asked(text, "majority(0)", 2 * (judges - first) > judges ? 0 : 1, x -> x.majority(0));
            }
        }
        Check.asked("skater s;", "majority(0) of one", 0, x -> x.majority(0));
        Check.refused("skater s;", "majority(1)", INDEX, x -> x.majority(1));
        Check.refused("skater s;", "majority(-1)", INDEX, x -> x.majority(-1));
    }

    private static void majorsDue(String text, int... order) {
        for (int i = 0; i < order.length; i++) {
            int k = i;
            Check.asked(text, "major(" + k + ")", order[i], x -> x.major(k));
        }
        Check.asked(text, "major(" + order.length + ")", NONE, x -> x.major(order.length));
        Check.asked(text, "major(-1)", NONE, x -> x.major(-1));
    }

    private static void moreJudgesThere() {
        Check.says("then with more JUDGES who have it there or ahead of there");
        // Places: s 0 0 2 2 1, t 1 1 1 1 5: both have 1, s with three judges and 5 together, t with four and 9.
        String six = "skater s;show ffdde aaaaa aaaaa;skater t;show eeeea aaaaa aaaaa;skater u;show dcfcd aaaaa aaaaa;"
                + "skater v;show cdcfc aaaaa aaaaa;skater w;show bbbbf aaaaa aaaaa;skater x;show aaaab aaaaa aaaaa;";
        int[] majority = {1, 1, 2, 3, 4, 5};
        for (int i = 0; i < 6; i++) {
            int skater = i;
            Check.asked(six, "majority(" + i + ")", majority[i], x -> x.majority(skater));
        }
        majorsDue(six, 1, 0, 2, 3, 4, 5);
        // Places: s 0 0 2 2 2, t 1 1 0 1 1, u 2 2 1 0 0: t has five at 1 or ahead, u three.
        majorsDue("skater s;show ccaaa aaaaa aaaaa;skater t;show bbcbb aaaaa aaaaa;skater u;show aabcc aaaaa aaaaa;", 1, 2, 0);
    }

    private static void lessTogether() {
        Check.says("then with less of all its PLACES together");
        // Places: s 2 0 0, t 0 1 2, u 1 2 1: s ahead with 0 twice, t 1 twice together 3, u 1 twice together 4.
        majorsDue("judges 3;skater s;show acc aaa aaa;skater t;show cba aaa aaa;skater u;show bab aaa aaa;", 0, 1, 2);
        // The same with t and u told the other way round.
        majorsDue("judges 3;skater s;show acc aaa aaa;skater t;show bab aaa aaa;skater u;show cba aaa aaa;", 0, 2, 1);
    }

    private static void lessTogetherOfNine() {
        Check.says("then with less of all its PLACES together");
        // Places: s 1 0 0 1 2 2 1 1 1, t 0 1 1 0 1 0 0 2 2, u 2 2 2 2 0 1 2 0 0: s and t have 1 with seven, together 9 and 7.
        majorsDue("judges 9;skater s;show bccbaabbb aaaaaaaaa aaaaaaaaa;skater t;show cbbcbccaa aaaaaaaaa aaaaaaaaa;"
                + "skater u;show aaaacbacc aaaaaaaaa aaaaaaaaa;", 1, 0, 2);
    }

    private static void lesserNumber() {
        Check.says("then with the lesser number");
        // Places: s 0 1, t 1 0: both 1 with two judges, together 1.
        majorsDue("judges 2;skater s;show ba aa aa;skater t;show ab aa aa;", 0, 1);
        majorsDue("judges 2;skater s;show ab aa aa;skater t;show ba aa aa;", 0, 1);
        majorsDue("skater a;skater b;skater c;skater d;skater e;skater f;", 0, 1, 2, 3, 4, 5);
        majorsDue("judges 1;skater a;skater b;show b a a;", 1, 0);
        majorsDue("judges 1;");
    }

    /** By the document's words with numbers that do not wrap round by themselves. */
    private static int drawn(int seed, int n, int judges) {
        boolean[] in = new boolean[judges];
        java.math.BigInteger x = java.math.BigInteger.valueOf(seed);
        int panel = 0;
        for (int free = judges; free > judges - n; free--) {
            x = x.multiply(java.math.BigInteger.valueOf(1103515245)).add(java.math.BigInteger.valueOf(12345));
            x = java.math.BigInteger.valueOf(x.intValue());
            int bits = 0;
            for (int bit = 16; bit <= 30; bit++) {
                bits += x.testBit(bit) ? 1 << bit - 16 : 0;
            }
            int among = bits % free;
            int judge = 0;
            while (in[judge] || among > 0) {
                among -= in[judge] ? 0 : 1;
                judge++;
            }
            in[judge] = true;
            panel |= 1 << judge;
        }
        return panel;
    }

    private static void drawsWrapRound() {
        Check.says("x becomes 1103515245 x + 12345, wrapping round; its bits 16 to 30 modulo m");
        int[] seeds = {0, 1, -1, 2, 12345, -12345, 65535, 65536, 1 << 30, 1 << 31, Integer.MAX_VALUE, Integer.MIN_VALUE + 1, 99991, -77777777};
        for (int judges = 1; judges <= 9; judges++) {
            for (int n = 1; n <= judges; n++) {
                for (int seed : seeds) {
                    int size = n;
                    Check.asked("judges " + judges + ";", "panel(" + seed + ", " + n + ")", drawn(seed, n, judges), x -> x.panel(seed, size));
                }
            }
        }
        // 12345 has no bits above 15: the first is drawn. 1103527590 by 65536 is 16838, modulo 5 3.
        Check.asked("", "panel(0, 1)", 1, x -> x.panel(0, 1));
        Check.asked("", "panel(1, 1)", 8, x -> x.panel(1, 1));
    }

    private static void drawsOfAll() {
        Check.says("n times one more, of the JUDGES that are not in it yet");
        for (int judges = 1; judges <= 9; judges++) {
            String text = "judges " + judges + ";";
            int all = (1 << judges) - 1;
            for (int seed = -5; seed <= 5; seed++) {
                int s = seed;
                Check.asked(text, "panel of all", all, x -> x.panel(s, x.count(2)));
                Check.asked(text, "judges in a panel of all but one", judges - 1,
                        x -> x.count(2) == 1 ? 0 : Integer.bitCount(x.panel(s, x.count(2) - 1)));
            }
        }
    }

    private static void sizesOfPanels() {
        Check.says("IllegalArgumentException: n is not 1 to JUDGES");
        for (int judges = 1; judges <= 9; judges++) {
            String text = "judges " + judges + ";skater s;";
            int[] wrong = {0, -1, judges + 1, 32, Integer.MIN_VALUE, Integer.MAX_VALUE};
            for (int n : wrong) {
                Check.refused(text, "panel(7, " + n + ")", ARGUMENT, x -> x.panel(7, n));
                Check.refused(text, "firsts(0, " + n + ")", ARGUMENT, x -> x.firsts(0, n));
                Check.refused(text, "firsts(1, " + n + ")", INDEX, x -> x.firsts(1, n));
            }
            Check.asked(text, "firsts(0, 1)", judges, x -> x.firsts(0, 1));
            Check.asked(text, "firsts(0, JUDGES)", 1, x -> x.firsts(0, x.count(2)));
            Check.asked(text, "a panel of 1", 1, x -> Integer.bitCount(x.panel(7, 1)));
        }
    }

    private static void panelsOfNone() {
        Check.says("IllegalArgumentException: it has none, or others");
        for (int judges = 1; judges <= 9; judges++) {
            String marks = "k".repeat(judges);
            String text = "judges " + judges + ";skater s;show " + marks + " " + marks + " " + marks + ";";
            int all = (1 << judges) - 1;
            int[] wrong = {0, all + 1, 2 * all + 1, -1, -2, 1 << 30, 1 << 31, Integer.MAX_VALUE};
            for (int panel : wrong) {
                Check.refused(text, "by(0, " + panel + ")", ARGUMENT, x -> x.by(0, panel));
                Check.refused(text, "by(1, " + panel + ")", INDEX, x -> x.by(1, panel));
                Check.refused(text, "by(-1, " + panel + ")", INDEX, x -> x.by(-1, panel));
            }
            Check.asked(text, "by(0, 1)", 3000, x -> x.by(0, 1));
            Check.asked(text, "by all", 3000, x -> x.by(0, all));
        }
    }

    private static void firstsOfAll() {
        Check.says("By how many of all PANELS of n JUDGES a SKATER has RANK 0");
        int[] choose = {9, 36, 84, 126, 126, 84, 36, 9, 1};
        for (int n = 1; n <= 9; n++) {
            int size = n;
            Check.asked("judges 9;skater s;skater t;", "firsts(0, " + n + ")", choose[n - 1], x -> x.firsts(0, size));
            Check.asked("judges 9;skater s;skater t;", "firsts(1, " + n + ")", 0, x -> x.firsts(1, size));
        }
        // By one of nine alone t is ahead, by all with him if none is left out.
        String one = "judges 9;drop 0;skater s;skater t;show aaaaaaaak aaaaaaaaa aaaaaaaaa;";
        for (int n = 1; n <= 9; n++) {
            int size = n;
            int with = n == 1 ? 1 : choose[n - 1] * n / 9;
            Check.asked(one, "firsts(1, " + n + ")", with, x -> x.firsts(1, size));
            Check.asked(one, "firsts(0, " + n + ")", choose[n - 1] - with, x -> x.firsts(0, size));
        }
        // With one dropped he counts only where two are left of all, in panels of one and of two.
        String drop = "judges 9;drop 1;skater s;skater t;show aaaaaaaak aaaaaaaaa aaaaaaaaa;";
        int[] want = {1, 8, 0, 0, 0, 0, 0, 0, 0};
        for (int n = 1; n <= 9; n++) {
            int size = n;
            Check.asked(drop, "firsts(1, " + n + ")", want[n - 1], x -> x.firsts(1, size));
        }
    }

    private static void sixByNine() {
        Check.says("skater: a SKATER (6 at most ..); judges: JUDGES 1 to 9");
        StringBuilder told = new StringBuilder("judges 9;element a jump 5;");
        for (int i = 0; i < 6; i++) {
            String marks = String.valueOf((char) ('k' - i)).repeat(9);
            told.append("skater ").append((char) ('a' + i)).append(";do a 1 aaaafkkkk;show ").append(marks).append(" aaaaaaaaa aaaaaaaaa;");
        }
        String text = told.toString();
        int[] choose = {9, 36, 84, 126, 126, 84, 36, 9, 1};
        for (int i = 0; i < 6; i++) {
            int skater = i;
            Check.asked(text, "rank", i, x -> x.rank(skater));
            Check.asked(text, "ranked", i, x -> x.ranked(skater));
            Check.asked(text, "majority", i, x -> x.majority(skater));
            Check.asked(text, "major", i, x -> x.major(skater));
            Check.asked(text, "TOTAL", 1005 - 100 * i, x -> x.total(skater, 4));
            Check.asked(text, "alone", 1002 - 100 * i, x -> x.alone(skater, 0));
            Check.asked(text, "alone", 1007 - 100 * i, x -> x.alone(skater, 8));
            Check.asked(text, "place", i, x -> x.place(skater, 8));
            Check.asked(text, "without", 1005 - 100 * i, x -> x.without(skater, 4));
            for (int n = 1; n <= 9; n++) {
                int size = n;
                Check.asked(text, "firsts(" + i + ", " + n + ")", i == 0 ? choose[n - 1] : 0, x -> x.firsts(skater, size));
            }
        }
        int[] bias = {-3000, -3000, -3000, -3000, 0, 3000, 3000, 3000, 3000};
        for (int j = 0; j < 9; j++) {
            int judge = j;
            Check.asked(text, "bias(" + j + ")", bias[j], x -> x.bias(judge));
            Check.asked(text, "sways(" + j + ")", 0, x -> x.sways(judge));
        }
        Check.asked(text, "odd()", 0, IceJudge::odd);
        Check.asked(text, "led(1)", 0, x -> x.led(1));
        Check.asked(text, "ranked(6)", NONE, x -> x.ranked(6));
        Check.asked(text, "major(6)", NONE, x -> x.major(6));
        Check.asked(text, "needed(0, 5)", -5, x -> x.needed(0, 5));
        Check.asked(text, "needed(5, 0)", -100, x -> x.needed(5, 0));
    }
}
