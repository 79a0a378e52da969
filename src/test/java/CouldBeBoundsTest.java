/** "Terms", 3, of what could be, with promises 35 to 43: the least, the first, the last, none, and what is written. */
public final class CouldBeBoundsTest {
    private static final int NONE = IceJudge.NONE;
    private static final Class<IndexOutOfBoundsException> INDEX = IndexOutOfBoundsException.class;
    private static final Class<IllegalArgumentException> ARGUMENT = IllegalArgumentException.class;
    private static final Class<IllegalStateException> STATE = IllegalStateException.class;

    public static void main(String[] args) {
        neededLeast();
        neededOfLikeOnes();
        neededOfTheLast();
        neededWithoutAttempts();
        neededOfOne();
        raisedToFive();
        raisedOfTrimmed();
        raisedOfZero();
        primeOfN();
        primeOfFewer();
        primeOfLikeOnes();
        primeOfAttempts();
        primeArguments();
        ledAtTimes();
        ledArguments();
        doubtFirst();
        doubtOfNone();
        cleanOfCalls();
        writtenNumbers();
        writtenSigns();
        writtenNames();
        writtenLongest();
        octets();
        counts();
        Check.finish();
    }

    private static void neededLeast() {
        Check.says("NEEDED: the least of -5 to 5 that, as the grade of all JUDGES for its last ATTEMPT, does so");
        // s has 100 by grade 0, 10 more or less by each grade; t has 49 to 151 shown, and no points.
        for (int shown = 49; shown <= 151; shown++) {
            int factor = shown;
            int want = -100;
            for (int grade = 5; grade >= -5; grade--) {
                want = 100 + 10 * grade >= shown ? grade : want;
            }
            String text = "judges 1;factor " + factor + " 0 0;element a jump 100;skater t;show b a a;skater s;do a 1 f;";
            Check.asked(text, "needed(1, 0)", want, x -> x.needed(1, 0));
        }
        String ends = "judges 1;factor 50 0 0;element a jump 100;skater t;show b a a;skater s;do a 1 f;";
        Check.asked(ends, "needed(1, 0) by 50", -5, x -> x.needed(1, 0));
        Check.asked(ends.replace("50 0 0", "51 0 0"), "needed(1, 0) by 51", -4, x -> x.needed(1, 0));
        Check.asked(ends.replace("50 0 0", "150 0 0"), "needed(1, 0) by 150", 5, x -> x.needed(1, 0));
        Check.asked(ends.replace("50 0 0", "151 0 0"), "needed(1, 0) by 151", -100, x -> x.needed(1, 0));
        Check.asked("judges 9;drop 3;element a jump 100;skater s;do a 1 abcdefghi;skater t;show ccccccccc aaaaaaaaa aaaaaaaaa;factor 65 0 0;",
                "needed(0, 1) of nine", 3, x -> x.needed(0, 1));
    }

    private static void neededOfLikeOnes() {
        Check.says("NEEDED for a SKATER to be AHEAD of another one");
        String text = "judges 1;element a jump 100;skater s;do a 1 f;skater t;do a 1 f;";
        Check.asked(text, "needed(0, 1), the lesser number", 0, x -> x.needed(0, 1));
        Check.asked(text, "needed(1, 0), the greater number", 1, x -> x.needed(1, 0));
        String zero = text + "deduct 9999;";
        Check.asked(zero, "needed(0, 1) by POINTS", 0, x -> x.needed(0, 1));
        Check.asked(zero, "needed(1, 0) by POINTS", 1, x -> x.needed(1, 0));
        Check.asked("judges 1;element a jump 0;skater s;do a 1 f;skater t;do a 1 f;", "needed(1, 0) of 0", -100, x -> x.needed(1, 0));
        Check.asked("judges 1;element a jump 0;skater s;do a 1 f;skater t;do a 1 f;", "needed(0, 1) of 0", -5, x -> x.needed(0, 1));
    }

    private static void neededOfTheLast() {
        Check.says("for its last ATTEMPT");
        // The last one is worth 10, the one ahead 1000: by the last one 5 more or less, by the other 500.
        String text = "judges 1;element a jump 1000;element b jump 10;skater s;do a 1 f;do b 2 f;skater t;show k a a;factor 101 0 0;";
        Check.asked(text, "needed(0, 1)", 0, x -> x.needed(0, 1));
        Check.asked(text.replace("101 0 0", "102 0 0"), "needed(0, 1)", -100, x -> x.needed(0, 1));
        IceJudge x = Check.read(text.replace("101 0 0", "102 0 0"));
        x.scratch(0, 1);
        Check.due("needed(0, 1) with the last one SCRATCHED", 1, () -> x.needed(0, 1));
        x.undo();
        Check.due("needed(0, 1) undone", -100, () -> x.needed(0, 1));
        String like = "judges 1;element a jump 1000;element b jump 10;skater s;do a 5 f;do b 5 f;skater t;show k a a;factor 102 0 0;";
        Check.asked(like, "needed(0, 1) at like times", -100, y -> y.needed(0, 1));
    }

    private static void neededWithoutAttempts() {
        Check.says("-100: none does so, or it has no ATTEMPTS");
        String text = "judges 1;element a jump 100;skater s;show k k k;skater t;do a 1 f;skater u;";
        Check.asked(text, "needed(0, 1) though it is AHEAD", -100, x -> x.needed(0, 1));
        Check.asked(text, "needed(2, 1)", -100, x -> x.needed(2, 1));
        Check.asked(text, "needed(1, 0)", -100, x -> x.needed(1, 0));
        Check.asked(text, "needed(1, 2)", -5, x -> x.needed(1, 2));
        IceJudge x = Check.read(text);
        x.scratch(1, 0);
        Check.due("needed(1, 2) with all SCRATCHED", -100, () -> x.needed(1, 2));
    }

    private static void neededOfOne() {
        Check.says("IllegalArgumentException: they are one");
        String text = "judges 1;element a jump 100;skater s;do a 1 f;skater t;";
        Check.refused(text, "needed(0, 0)", ARGUMENT, x -> x.needed(0, 0));
        Check.refused(text, "needed(1, 1)", ARGUMENT, x -> x.needed(1, 1));
        Check.refused(text, "needed(2, 2)", INDEX, x -> x.needed(2, 2));
        Check.refused(text, "needed(-1, -1)", INDEX, x -> x.needed(-1, -1));
        Check.refused(text, "needed(0, 2)", INDEX, x -> x.needed(0, 2));
        Check.refused(text, "needed(2, 0)", INDEX, x -> x.needed(2, 0));
        Check.refused(text, "needed(0, -1)", INDEX, x -> x.needed(0, -1));
    }

    private static void raisedToFive() {
        Check.says("By how much TOTAL would be more, were a grade one more. IllegalStateException: it is 5");
        String letters = "abcdefghijk";
        for (int i = 0; i < 10; i++) {
            String text = "judges 1;element a jump 100;skater s;do a 1 " + letters.charAt(i) + ";";
            Check.asked(text, "raise(0, 0, 0)", 10, x -> x.raise(0, 0, 0));
        }
        String five = "judges 1;element a jump 100;skater s;do a 1 k;";
        Check.refused(five, "raise(0, 0, 0)", STATE, x -> x.raise(0, 0, 0));
        Check.refused(five, "raise(0, 0, 1)", INDEX, x -> x.raise(0, 0, 1));
        Check.refused(five, "raise(0, 0, -1)", INDEX, x -> x.raise(0, 0, -1));
        Check.refused(five, "raise(0, 1, 0)", INDEX, x -> x.raise(0, 1, 0));
        Check.refused(five, "raise(1, 0, 0)", INDEX, x -> x.raise(1, 0, 0));
        IceJudge x = Check.read(five.replace("1 k", "1 j"));
        Check.due("raise(0, 0, 0)", 10, () -> x.raise(0, 0, 0));
        Check.due("raise(0, 0, 0) again", 10, () -> x.raise(0, 0, 0));
        x.tell(0, 0, 0, 5);
        Check.throwsDue("raise(0, 0, 0) behind a tell", STATE, () -> x.raise(0, 0, 0));
    }

    private static void raisedOfTrimmed() {
        Check.says("were a grade one more");
        String text = "judges 3;element a jump 1000;skater s;do a 1 ";
        String[] grades = {"afk", "ffk", "fff", "agk", "ffg"};
        // NONE where the grade is 5.
        int[][] want = {{0, 100, NONE}, {100, 100, NONE}, {0, 0, 0}, {0, 100, NONE}, {100, 100, 0}};
        for (int i = 0; i < grades.length; i++) {
            for (int j = 0; j < 3; j++) {
                int judge = j;
                int due = want[i][j];
                if (due == NONE) {
                    Check.refused(text + grades[i] + ";", "raise(0, 0, " + j + ")", STATE, x -> x.raise(0, 0, judge));
                } else {
                    Check.asked(text + grades[i] + ";", "raise(0, 0, " + j + ")", due, x -> x.raise(0, 0, judge));
                }
            }
        }
    }

    private static void raisedOfZero() {
        Check.says("By how much TOTAL would be more");
        int[] deducted = {0, 99, 100, 101, 109, 110, 111};
        int[] want = {10, 10, 10, 9, 1, 0, 0};
        for (int i = 0; i < deducted.length; i++) {
            String text = "judges 1;element a jump 100;skater s;do a 1 f;deduct " + deducted[i] + ";";
            Check.asked(text, "raise(0, 0, 0)", want[i], x -> x.raise(0, 0, 0));
        }
    }

    private static void primeOfN() {
        Check.says("PRIME of n: the set of these by which POINTS are greatest");
        String text = "judges 1;half 600;element a jump 100;element b jump 300;element c jump 200;element d spin 900;skater s;"
                + "do a 1 f;do d 2 f;do b 3 f;do c 4 f;do b+c 5 f;do a 600 f;";
        // Worth by attempts: 100, -, 300, 200, 500, 100.
        int[] want = {0, 16, 16 + 4, 16 + 4 + 8, 16 + 4 + 8 + 1, 16 + 4 + 8 + 1 + 32};
        for (int n = 0; n < want.length; n++) {
            int many = n;
            Check.asked(text, "prime(0, " + n + ")", want[n], x -> x.prime(0, many));
        }
        IceJudge x = Check.read(text);
        x.call(0, 2, 0, true);
        x.call(0, 2, 1, true);
        // 300 called under and edge is worth 168: less than 200.
        Check.due("prime(0, 2) with calls", 16 + 8, () -> x.prime(0, 2));
    }

    private static void primeOfFewer() {
        Check.says("all of them, if they are fewer");
        String text = "judges 1;element a jump 100;element d spin 900;skater s;do a 1 f;do d 2 f;do a 3 f;skater t;do d 1 f;skater u;";
        Check.asked(text, "prime(0, 1)", 1, x -> x.prime(0, 1));
        for (int n = 2; n <= 12; n++) {
            int many = n;
            Check.asked(text, "prime(0, " + n + ")", 5, x -> x.prime(0, many));
            Check.asked(text, "prime(1, " + n + ") without a jump", 0, x -> x.prime(1, many));
            Check.asked(text, "prime(2, " + n + ") without ATTEMPTS", 0, x -> x.prime(2, many));
        }
        String twelve = "judges 1;element a jump 100;skater s;" + "do a 1 f;".repeat(12);
        for (int n = 0; n <= 12; n++) {
            int many = n;
            Check.asked(twelve, "prime(0, " + n + ") of twelve", (1 << n) - 1, x -> x.prime(0, many));
        }
        IceJudge x = Check.read(text);
        x.scratch(0, 0);
        Check.due("prime(0, 2) with one SCRATCHED", 4, () -> x.prime(0, 2));
    }

    private static void primeOfLikeOnes() {
        Check.says("of several the least as bits");
        // Tenths of 19 and of 11 are both 1, of 9 and 0 both 0, of 20 2.
        String text = "judges 1;element a jump 9;element b jump 19;element c jump 11;element d jump 20;element e jump 0;skater s;"
                + "do e 1 f;do a 2 f;do b 3 f;do c 4 f;do d 5 f;do c 6 f;";
        int[] want = {0, 16, 16 + 4, 16 + 4 + 8, 16 + 4 + 8 + 32, 16 + 4 + 8 + 32 + 1, 63};
        for (int n = 0; n < want.length; n++) {
            int many = n;
            Check.asked(text, "prime(0, " + n + ")", want[n], x -> x.prime(0, many));
            Check.asked(text + "late 0;", "prime(0, " + n + ") by late 0", (1 << n) - 1, x -> x.prime(0, many));
        }
    }

    private static void primeOfAttempts() {
        Check.says("a SKATER's ATTEMPTS that begin with a jump");
        String text = "judges 1;repeat 1;element a jump 100;element b jump 50;skater s;do a 1 f;do a 2 f;do a+b 3 f;do b 4 f;";
        // The second and the fourth are worth 0, the third 50.
        int[] want = {0, 1, 5, 7, 15};
        for (int n = 0; n < want.length; n++) {
            int many = n;
            Check.asked(text, "prime(0, " + n + ")", want[n], x -> x.prime(0, many));
        }
        Check.says("whenever they are");
        Check.asked(text + "half 0;", "prime(0, 2) where all are LATE", 5, x -> x.prime(0, 2));
        Check.asked(text + "half 600;", "prime(0, 2) where none is LATE", 5, x -> x.prime(0, 2));
    }

    private static void primeArguments() {
        Check.says("IllegalArgumentException: n is not 0 to 12");
        String text = "judges 1;element a jump 100;skater s;do a 1 f;";
        Check.asked(text, "prime(0, 0)", 0, x -> x.prime(0, 0));
        Check.asked(text, "prime(0, 12)", 1, x -> x.prime(0, 12));
        int[] wrong = {-1, 13, Integer.MIN_VALUE, Integer.MAX_VALUE};
        for (int n : wrong) {
            Check.refused(text, "prime(0, " + n + ")", ARGUMENT, x -> x.prime(0, n));
            Check.refused(text, "prime(1, " + n + ")", INDEX, x -> x.prime(1, n));
        }
        Check.refused(text, "prime(-1, 0)", INDEX, x -> x.prime(-1, 0));
    }

    private static void ledAtTimes() {
        Check.says("LED at a time: the SKATER of RANK 0, as if ATTEMPTS with greater times were not");
        String text = "judges 1;element a jump 100;element b jump 150;skater s;do a 0 f;do a 600 f;skater t;do b 70 f;";
        int[] times = {0, 69, 70, 71, 599, 600};
        int[] want = {0, 0, 1, 1, 1, 0};
        for (int i = 0; i < times.length; i++) {
            int time = times[i];
            Check.asked(text, "led(" + time + ")", want[i], x -> x.led(time));
        }
        String rules = "judges 1;element a jump 100;skater s;do a 5 f fall;skater t;do a 9 f;deduct 1 if tries=0;";
        Check.asked(rules, "led(4) of like ones", 0, x -> x.led(4));
        Check.asked(rules, "led(8) with a fall", 0, x -> x.led(8));
        Check.asked(rules, "led(9)", 1, x -> x.led(9));
        IceJudge x = Check.read(text);
        x.scratch(1, 0);
        Check.due("led(71) with one SCRATCHED", 0, () -> x.led(71));
        String shown = "judges 1;element a jump 100;skater s;do a 5 f;skater t;show b a a;factor 100 0 0;";
        Check.asked(shown, "led(4) by what is SHOWN", 1, y -> y.led(4));
        Check.asked(shown, "led(5) by POINTS", 0, y -> y.led(5));
    }

    private static void ledArguments() {
        Check.says("NONE: there are no SKATERS. IllegalArgumentException: the time is not 0 to 600");
        int[] wrong = {-1, 601, Integer.MIN_VALUE, Integer.MAX_VALUE};
        for (int time : wrong) {
            Check.refused("", "led(" + time + ")", ARGUMENT, x -> x.led(time));
            Check.refused("skater s;", "led(" + time + ")", ARGUMENT, x -> x.led(time));
        }
        int[] right = {0, 1, 599, 600};
        for (int time : right) {
            Check.asked("", "led(" + time + ")", NONE, x -> x.led(time));
            Check.asked("skater s;", "led(" + time + ")", 0, x -> x.led(time));
            Check.asked("skater s;skater t;", "led(" + time + ")", 0, x -> x.led(time));
        }
    }

    private static void doubtFirst() {
        Check.says("DOUBT: the ATTEMPT whose greatest grade is the most above its least, of several the first");
        String ahead = "judges 3;element a jump 100;skater s;do a 1 ";
        String[][] grades = {{"fff", "fff", "fff"}, {"fff", "ffg", "gff"}, {"ffg", "fge", "egf"}, {"kff", "ffa", "aff"},
            {"kff", "gea", "ffa"}, {"aak", "kka", "aka"}, {"eee", "fff", "efe"}};
        int[] want = {0, 1, 1, 0, 1, 0, 2};
        for (int i = 0; i < grades.length; i++) {
            Check.asked(ahead + String.join(";do a 1 ", grades[i]) + ";", "doubt(0)", want[i], x -> x.doubt(0));
        }
        Check.asked("judges 1;element a jump 100;skater s;do a 1 a;do a 1 k;", "doubt(0) of one JUDGE", 0, x -> x.doubt(0));
        IceJudge x = Check.read(ahead + "afk;do a 2 afk;do a 3 fff;");
        x.scratch(0, 0);
        Check.due("doubt(0) with the first SCRATCHED", 1, () -> x.doubt(0));
        x.scratch(0, 1);
        Check.due("doubt(0) with both SCRATCHED", 2, () -> x.doubt(0));
    }

    private static void doubtOfNone() {
        Check.says("DOUBT; NONE: it has no ATTEMPTS");
        String text = "judges 1;element a jump 100;skater s;do a 1 f;skater t;";
        Check.asked(text, "doubt(0)", 0, x -> x.doubt(0));
        Check.asked(text, "doubt(1)", NONE, x -> x.doubt(1));
        Check.refused(text, "doubt(2)", INDEX, x -> x.doubt(2));
        Check.refused(text, "doubt(-1)", INDEX, x -> x.doubt(-1));
        IceJudge x = Check.read(text);
        x.scratch(0, 0);
        Check.due("doubt(0) with all SCRATCHED", NONE, () -> x.doubt(0));
    }

    private static void cleanOfCalls() {
        Check.says("CLEAN: TOTAL as if nothing were called");
        String ahead = "judges 1;half 9;element a jump 1000;skater s;do a 9 g";
        String[] calls = {"", " under", " edge", " fall", " under edge", " under edge fall"};
        int[] total = {1200, 980, 870, 1100, 716, 616};
        for (int i = 0; i < calls.length; i++) {
            Check.asked(ahead + calls[i] + ";", "TOTAL", total[i], x -> x.total(0, 4));
            Check.asked(ahead + calls[i] + ";", "clean(0)", 1200, x -> x.clean(0));
            Check.asked(ahead + calls[i] + ";deduct 1+falls*2+unders*4+edges*8;", "clean(0) with a RULE", 1199, x -> x.clean(0));
            Check.asked(ahead + calls[i] + ";deduct 7 if falls=0 and unders=0 and edges=0;", "clean(0) with a TEST", 1193, x -> x.clean(0));
        }
        Check.asked("skater s;deduct 5;", "clean(0), 0 at least", 0, x -> x.clean(0));
        Check.refused(ahead + ";", "clean(1)", INDEX, x -> x.clean(1));
        Check.refused(ahead + ";", "clean(-1)", INDEX, x -> x.clean(-1));
    }

    private static void writtenNumbers() {
        Check.says("TOTAL by 100 with two digits behind the point (7.05); .. POINTS likewise (below 0 with - ahead)");
        int[] bases = {0, 1, 5, 9, 10, 99, 100, 101, 110, 705, 999, 1000, 1001, 2000};
        String[] want = {"0.00", "0.01", "0.05", "0.09", "0.10", "0.99", "1.00", "1.01", "1.10", "7.05", "9.99", "10.00", "10.01", "20.00"};
        for (int i = 0; i < bases.length; i++) {
            IceJudge x = Check.read("judges 1;element a jump " + bases[i] + ";skater s;do a 1 f;");
            Check.writtenDue(x, 0, "s " + want[i] + "\na " + want[i]);
        }
        Check.writtenDue(Check.read("judges 1;element a jump 1;skater s;do a 1 a under;"), 0, "s 0.00\na< -0.01");
        Check.writtenDue(Check.read("judges 1;element a jump 1;skater s;do a 1 a;"), 0, "s 0.00\na 0.00");
        Check.writtenDue(Check.read("judges 1;factor 300 300 300;skater s;show k k k;"), 0, "s 90.00");
        Check.writtenDue(Check.read("judges 1;factor 300 300 300;skater s;show k k k;deduct 9000;"), 0, "s 0.00");
        Check.writtenDue(Check.read("judges 1;half 0;late 50;element a jump 2000;skater s;do a 1 k;do a 1 k;factor 300 300 300;show k k k;"), 0,
                "s 170.00\nax 40.00\nax 40.00");
    }

    private static void writtenSigns() {
        Check.says("< if it is called under, ! if edge, x if it is LATE, a blank");
        String[] calls = {"", " under", " edge", " fall", " edge under", " fall under", " fall edge", " edge fall under"};
        String[] signs = {"", "<", "!", "", "<!", "<", "!", "<!"};
        for (int i = 0; i < calls.length; i++) {
            String text = "judges 1;half 60;element a jump 0;element b spin 0;skater s;do b 60 f" + calls[i] + ";do a 60 f" + calls[i] + ";";
            Check.writtenDue(Check.read(text), 0, "s 0.00\nb" + signs[i] + " 0.00\na" + signs[i] + "x 0.00");
            Check.writtenDue(Check.read(text + "half 61;"), 0, "s 0.00\nb" + signs[i] + " 0.00\na" + signs[i] + " 0.00");
        }
    }

    private static void writtenNames() {
        Check.says("its NAME, a blank, TOTAL ..; then of each ATTEMPT a byte 10, NAMES of its ELEMENTS with + between");
        Check.writtenDue(Check.read("skater s;"), 0, "s 0.00");
        Check.writtenDue(Check.read("skater s;skater abcdef;"), 1, "abcdef 0.00");
        String text = "judges 1;element a jump 0;element uvwxyz jump 0;skater s;do a+uvwxyz+a 1 f;do uvwxyz 1 f;do uvwxyz+a 2 f;";
        IceJudge x = Check.read(text);
        Check.writtenDue(x, 0, "s 0.00\na+uvwxyz+a 0.00\nuvwxyz 0.00\nuvwxyz+a 0.00");
        x.scratch(0, 1);
        Check.writtenDue(x, 0, "s 0.00\na+uvwxyz+a 0.00\nuvwxyz+a 0.00");
        x.scratch(0, 0);
        x.scratch(0, 2);
        Check.writtenDue(x, 0, "s 0.00");
        Check.refused(text, "write(1)", INDEX, y -> y.write(1));
        Check.refused(text, "write(-1)", INDEX, y -> y.write(-1));
    }

    private static void writtenLongest() {
        Check.says("A SKATER is WRITTEN: how many bytes");
        String line = "do abcdef+abcdef+abcdef 1 k under edge;";
        String text = "judges 1;half 0;late 50;repeat 3;element abcdef jump 2000;skater uvwxyz;" + line.repeat(12);
        IceJudge x = Check.read(text);
        // 6000 by 8/10 and 7/10 is 3360, half of it more 5040, and 1000 by the grades; the others are struck.
        String want = "uvwxyz 60.40\nabcdef+abcdef+abcdef<!x 60.40" + "\nabcdef+abcdef+abcdef<!x 0.00".repeat(11);
        Check.due("write(0)", want.length(), () -> x.write(0));
        Check.due("count(12)", want.length(), () -> x.count(12));
        Check.writtenDue(x, 0, want);
        StringBuilder many = new StringBuilder("judges 1;half 0;late 50;repeat 3;");
        StringBuilder tries = new StringBuilder();
        StringBuilder due = new StringBuilder("uvwxyz 400.00");
        for (char c = 'a'; c < 'e'; c++) {
            many.append("element ").append(c).append("bcdef jump 2000;");
            tries.append("do ").append(c).append("bcdef+").append(c).append("bcdef+").append(c).append("bcdef 1 k;");
            due.append('\n').append(c).append("bcdef+").append(c).append("bcdef+").append(c).append("bcdefx 100.00");
        }
        Check.writtenDue(Check.read(many + "skater uvwxyz;" + tries), 0, due.toString());
    }

    private static void octets() {
        Check.says("Byte k of what was WRITTEN latest; NONE without");
        IceJudge x = new IceJudge();
        int[] all = {0, 1, -1, 5, 6, Integer.MIN_VALUE, Integer.MAX_VALUE};
        for (int k : all) {
            Check.due("octet(" + k + ") ahead of all", NONE, () -> x.octet(k));
        }
        Check.put(x, "skater s;skater tuv;");
        x.read();
        Check.due("octet(0) ahead of a write", NONE, () -> x.octet(0));
        Check.due("write(1)", 8, () -> x.write(1));
        Check.due("octet(0)", 't', () -> x.octet(0));
        Check.due("octet(7)", '0', () -> x.octet(7));
        Check.due("octet(8)", NONE, () -> x.octet(8));
        Check.due("octet(-1)", NONE, () -> x.octet(-1));
        Check.due("octet(MAX)", NONE, () -> x.octet(Integer.MAX_VALUE));
        Check.due("octet(MIN)", NONE, () -> x.octet(Integer.MIN_VALUE));
        Check.due("write(0)", 6, () -> x.write(0));
        Check.due("octet(0)", 's', () -> x.octet(0));
        Check.due("octet(5)", '0', () -> x.octet(5));
        Check.due("octet(6) of a shorter one", NONE, () -> x.octet(6));
        x.show(0, 0, 0, 10);
        Check.due("count(12) behind an act", 6, () -> x.count(12));
        Check.throwsDue("write(2)", INDEX, () -> x.write(2));
        Check.due("octet(0) behind a write that throws", 's', () -> x.octet(0));
        Check.put(x, "");
        x.read();
        Check.due("octet(0) behind a read", 's', () -> x.octet(0));
        Check.due("count(12) behind a read", 6, () -> x.count(12));
    }

    private static void counts() {
        Check.says("20 to 25 ATTEMPTS of SKATER 0 to 5 (with those SCRATCHED; NONE without such a one). NONE for another what");
        StringBuilder text = new StringBuilder("judges 1;element a jump 5;");
        for (int skaters = 0; skaters <= 6; skaters++) {
            String told = text.toString();
            for (int what = 20; what <= 26; what++) {
                int w = what;
                Check.asked(told, "count(" + what + ")", w - 20 < skaters ? w - 20 : NONE, x -> x.count(w));
            }
            text.append("skater ").append((char) ('a' + skaters)).append(';').append("do a 1 f;".repeat(skaters));
        }
        int[] others = {-1, 13, 14, 19, 26, 27, Integer.MIN_VALUE, Integer.MAX_VALUE};
        String six = "skater a;skater b;skater c;skater d;skater e;skater f;deduct 1;";
        for (int what : others) {
            Check.asked(six, "count(" + what + ")", NONE, x -> x.count(what));
        }
        int[] want = {0, 6, 5, 1, 120, 10, 2, 100, 100, 100, 1, 0, 0};
        for (int i = 0; i < want.length; i++) {
            int what = i;
            Check.asked(six, "count(" + what + ")", want[i], x -> x.count(what));
        }
        IceJudge x = Check.read("judges 1;element a jump 5;skater s;do a 1 f;do a 2 f;");
        x.scratch(0, 1);
        Check.due("count(20) with one SCRATCHED", 2, () -> x.count(20));
        x.scratch(0, 0);
        Check.due("count(20) with both SCRATCHED", 2, () -> x.count(20));
    }
}
