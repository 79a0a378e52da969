import java.util.NoSuchElementException;

/** Promises 2 to 7: the tape, the text, its fault, names and elements. */
public final class TextTest {
    private static final int NONE = IceJudge.NONE;
    private static final Class<IndexOutOfBoundsException> INDEX = IndexOutOfBoundsException.class;
    private static final String JUMP = "element a jump 5;";
    private static final String SKATER = "skater s;";

    public static void main(String[] args) {
        tape();
        readTakesThePlaceOfAll();
        wrongTextChangesNothing();
        linesAndBounds();
        names();
        elements();
        attemptLines();
        votes();
        rules();
        limits();
        tokens();
        Check.finish();
    }

    private static void tape() {
        IceJudge x = new IceJudge();
        Check.due("end(0) of none", 1, () -> x.end(0) ? 1 : 0);
        Check.due("end(1) of none", 0, () -> x.end(1) ? 1 : 0);
        for (int i = 1; i <= 30; i++) {
            Check.due("feed " + i, 20 * i, () -> x.feed(0, 0, 0, 0, 0));
        }
        Check.due("feed 31", NONE, () -> x.feed(0, 0, 0, 0, 0));
        Check.due("end(601)", 0, () -> x.end(601) ? 1 : 0);
        Check.due("end(-1)", 0, () -> x.end(-1) ? 1 : 0);
        Check.due("end(600)", 1, () -> x.end(600) ? 1 : 0);
        Check.due("end(581)", 1, () -> x.end(581) ? 1 : 0);
        Check.due("end(582)", 0, () -> x.end(582) ? 1 : 0);
        Check.due("feed behind 581", NONE, () -> x.feed(0, 0, 0, 0, 0));
        Check.due("end(580)", 1, () -> x.end(580) ? 1 : 0);
        Check.due("feed behind 580", 600, () -> x.feed(0, 0, 0, 0, 0));
        Check.throwsDue("read() of bytes 0", IllegalArgumentException.class, x::read);
        Check.due("fault()", 0, x::fault);
        Check.due("feed behind read()", 20, () -> x.feed(0x736b6174, 0x65722061, 0x623b2020, 0x20202020, 0x0a09203b));
        Check.due("end(19)", 1, () -> x.end(19) ? 1 : 0);
        Check.due("read()", 1, x::read);
        Check.due("name(true, 0, 1)", 'b', () -> x.name(true, 0, 1));
        Check.due("fault()", NONE, x::fault);
        Check.due("read() of none", 0, x::read);
        Check.faultDue(" ".repeat(600), NONE);
        Check.faultDue("skater a;" + " ".repeat(591), NONE);
        Check.faultDue(" ".repeat(599) + "s", 599);
        Check.faultDue("skater" + " ".repeat(594), 600);
    }

    private static void readTakesThePlaceOfAll() {
        IceJudge x = Check.read("judges 2;drop 3;factor 1 2 3;half 4;late 5;repeat 3;deduct 7;"
                + JUMP + SKATER + "lasts 9;do a 1 kk under;show kk kk kk;");
        x.set(0, 2);
        x.scratch(0, 0);
        Check.due("count(11)", 2, () -> x.count(11));
        Check.put(x, "element b spin 9;skater t;deduct time;");
        Check.due("read() again", 1, x::read);
        int[] want = {1, 1, 5, 1, 120, 10, 2, 100, 100, 100, 1, 0, 0};
        for (int what = 0; what < want.length; what++) {
            int w = what;
            Check.due("count(" + what + ") of the second text", want[what], () -> x.count(w));
        }
        Check.due("undo() behind a read()", NONE, x::undo);
        Check.due("count(20)", 0, () -> x.count(20));
        Check.due("mark(0, 0, 0)", 0, () -> x.mark(0, 0, 0));
        Check.due("rule(0, 0)", 0, () -> x.rule(0, 0));
        Check.due("name(false, 0, 0)", 'b', () -> x.name(false, 0, 0));
        Check.due("element(0, 1)", 1, () -> x.element(0, 1));
        Check.put(x, JUMP + SKATER + "do a 1 fffff;");
        Check.due("read() a third time", 1, x::read);
        Check.due("attempt(0, 0, 5)", 0, () -> x.attempt(0, 0, 5));
        Check.due("grade(0, 0, 0)", 0, () -> x.grade(0, 0, 0));
    }

    private static void wrongTextChangesNothing() {
        IceJudge x = Check.read(JUMP + SKATER + "do a 1 kkkkk;");
        x.tell(0, 0, 0, 1);
        x.write(0);
        Check.put(x, "judges 3;drop 2;element b spin 7;skater q;skater r;lasts 5;do b 4 aaa;x");
        Check.throwsDue("read()", IllegalArgumentException.class, x::read);
        Check.due("fault()", 70, x::fault);
        Check.due("count(1)", 1, () -> x.count(1));
        Check.due("count(2)", 5, () -> x.count(2));
        Check.due("count(3)", 1, () -> x.count(3));
        Check.due("count(11)", 1, () -> x.count(11));
        Check.due("count(12)", 13, () -> x.count(12));
        Check.due("name(false, 0, 0)", 'a', () -> x.name(false, 0, 0));
        Check.due("grade(0, 0, 0)", 1, () -> x.grade(0, 0, 0));
        Check.due("undo()", 0, x::undo);
        Check.due("grade(0, 0, 0) undone", 5, () -> x.grade(0, 0, 0));
        Check.due("fault() stays", 70, x::fault);
    }

    private static void linesAndBounds() {
        boundsOf("judges ", 1, 9);
        boundsOf("drop ", 0, 3);
        boundsOf("half ", 0, 600);
        boundsOf("late ", 0, 50);
        boundsOf("repeat ", 1, 3);
        boundsOf("factor ", 0, 300, " 0 0");
        boundsOf("factor 0 ", 0, 300, " 0");
        boundsOf("factor 0 0 ", 0, 300);
        boundsOf("element a jump ", 0, 2000);
        boundsOf(SKATER + "lasts ", 0, 600);
        boundsOf(JUMP + SKATER + "do a ", 0, 600, " fffff");
        boundsOf(JUMP + SKATER + "do a 7 fffff;do a ", 7, 600, " fffff");
        boundsOf("deduct ", 0, 9999);
        Check.faultDue("factor 1 2;", 10);
        Check.faultDue("factor 1 2 3 4;", 13);
        Check.faultDue("drop;", 4);
        Check.faultDue("drop x;", 5);
        Check.faultDue("drop 1 2;", 7);
        Check.faultDue("drop 1", 6);
        Check.faultDue("drop 1  ", 8);
        Check.faultDue("drop 1;;", 7);
        Check.faultDue(";", 0);
        Check.faultDue("drops 1;", 0);
        Check.faultDue("dro 1;", 0);
        Check.faultDue("Drop 1;", 0);
        Check.faultDue("drop 1;7", 7);
        Check.faultDue("judges 2;drop 0;judges 3;", NONE);
        IceJudge x = Check.read("judges 2;drop 0;half 1;late 2;repeat 1;factor 1 2 3;"
                + "judges 3;drop 2;half 5;late 6;repeat 3;factor 7 8 9;skater a;lasts 5;lasts 6;deduct time;");
        int[] want = {3, 2, 5, 6, 3, 7, 8, 9};
        for (int i = 0; i < want.length; i++) {
            int what = i + 2;
            Check.due("count(" + what + ") is the last one told", want[i], () -> x.count(what));
        }
        Check.due("lasts is the last one told", 6, () -> x.rule(0, 0));
    }

    private static void boundsOf(String ahead, int least, int most) {
        boundsOf(ahead, least, most, "");
    }

    private static void boundsOf(String ahead, int least, int most, String behind) {
        Check.faultDue(ahead + least + behind + ";", NONE);
        Check.faultDue(ahead + most + behind + ";", NONE);
        Check.faultDue(ahead + (most + 1) + behind + ";", ahead.length());
        Check.faultDue(ahead + "00001" + behind + ";", ahead.length());
        Check.faultDue(ahead + "-1" + behind + ";", ahead.length());
        if (least > 0) {
            Check.faultDue(ahead + (least - 1) + behind + ";", ahead.length());
        }
    }

    private static void names() {
        Check.faultDue("skater abcdef;", NONE);
        Check.faultDue("skater abcdefg;", 7);
        Check.faultDue("skater ;", 7);
        Check.faultDue("skater 5;", 7);
        Check.faultDue("skater aB;", 8);
        Check.faultDue("skater do;skater skater;element late jump 1;element skater spin 2;do late 1 fffff;", NONE);
        Check.faultDue("skater a;skater b;skater a;", 25);
        Check.faultDue("element a jump 1;element a spin 2;", 25);
        Check.faultDue("element a jump 1;skater a;", NONE);
        Check.faultDue("skater a;skater ab;skater b;", NONE);
        IceJudge x = Check.read("element abcdef jump 1;element lo spin 2;skater zyxwvu;skater q;");
        for (int k = 0; k < 6; k++) {
            int at = k;
            Check.due("name(false, 0, " + k + ")", 'a' + k, () -> x.name(false, 0, at));
            Check.due("name(true, 0, " + k + ")", 'z' - k, () -> x.name(true, 0, at));
        }
        Check.due("name(false, 0, 6)", NONE, () -> x.name(false, 0, 6));
        Check.due("name(false, 1, 1)", 'o', () -> x.name(false, 1, 1));
        Check.due("name(false, 1, 2)", NONE, () -> x.name(false, 1, 2));
        Check.due("name(true, 1, 1)", NONE, () -> x.name(true, 1, 1));
        Check.due("name(true, 1, -1)", NONE, () -> x.name(true, 1, -1));
        Check.due("name(true, 1, MIN)", NONE, () -> x.name(true, 1, Integer.MIN_VALUE));
        Check.due("name(true, 1, MAX)", NONE, () -> x.name(true, 1, Integer.MAX_VALUE));
        Check.throwsDue("name(true, 2, 0)", INDEX, () -> x.name(true, 2, 0));
        Check.throwsDue("name(true, -1, 0)", INDEX, () -> x.name(true, -1, 0));
        Check.throwsDue("name(false, 2, 0)", INDEX, () -> x.name(false, 2, 0));
        Check.throwsDue("name(false, -1, -1)", INDEX, () -> x.name(false, -1, -1));
    }

    private static void elements() {
        Check.faultDue("element a jump;", 14);
        Check.faultDue("element a jumps 1;", 10);
        Check.faultDue("element a step 1;", 10);
        Check.faultDue("element a 1;", 10);
        Check.faultDue("element jump 1;", 13);
        Check.faultDue("element", 7);
        IceJudge x = Check.read("element a jump 2000;element b spin 0;element c steps 0007;");
        int[][] want = {{2000, 0}, {0, 1}, {7, 2}};
        for (int i = 0; i < 3; i++) {
            int element = i;
            Check.due("element(" + i + ", 0)", want[i][0], () -> x.element(element, 0));
            Check.due("element(" + i + ", 1)", want[i][1], () -> x.element(element, 1));
        }
        Check.throwsDue("element(3, 0)", INDEX, () -> x.element(3, 0));
        Check.throwsDue("element(-1, 5)", INDEX, () -> x.element(-1, 5));
        Check.throwsDue("element(0, 2)", NoSuchElementException.class, () -> x.element(0, 2));
        Check.throwsDue("element(0, -1)", NoSuchElementException.class, () -> x.element(0, -1));
    }

    private static void attemptLines() {
        String ahead = "element a jump 5;element b jump 6;element c spin 7;element d steps 8;skater s;";
        int at = ahead.length();
        Check.faultDue(ahead + "do a+b+a 1 fffff;", NONE);
        Check.faultDue(ahead + "do a+b+a+b 1 fffff;", at + 8);
        Check.faultDue(ahead + "do a+c 1 fffff;", at + 5);
        Check.faultDue(ahead + "do a+b+d 1 fffff;", at + 7);
        Check.faultDue(ahead + "do c+a 1 fffff;", at + 4);
        Check.faultDue(ahead + "do d 1 fffff;do d+c 1 fffff;", at + 17);
        Check.faultDue(ahead + "do e 1 fffff;", at + 3);
        Check.faultDue(ahead + "do a+e 1 fffff;", at + 5);
        Check.faultDue(ahead + "do s 1 fffff;", at + 3);
        Check.faultDue(ahead + "do abcdefg 1 fffff;", at + 3);
        Check.faultDue(ahead + "do 1 fffff;", at + 3);
        Check.faultDue(ahead + "do a+ 1 fffff;", at + 6);
        Check.faultDue(ahead + "do a fffff;", at + 5);
        Check.faultDue(ahead + "do a b 1 fffff;", at + 5);
        Check.faultDue(ahead + "do a 9 fffff;do b 8 fffff;", at + 18);
        Check.faultDue(ahead + "do a 9 fffff;do b 9 fffff;skater t;do a 3 fffff;", NONE);
        Check.faultDue(ahead + "do a 9 fffff edge fall under;", NONE);
        Check.faultDue(ahead + "do a 9 fffff fall edge fall;", at + 23);
        Check.faultDue(ahead + "do a 9 fffff under edge fall under;", at + 29);
        Check.faultDue(ahead + "do a 9 fffff over;", at + 13);
        Check.faultDue(ahead + "do a 9 fffff under+;", at + 18);
        Check.faultDue(ahead + "do a 9 fffffunder;", at + 7);
        Check.faultDue(ahead + "do a+b\n+\ta9fffff under ;", NONE);
        Check.faultDue("do", 0);
        Check.faultDue("lasts 5;", 0);
        Check.faultDue("show aaaaa aaaaa aaaaa;", 0);
        Check.faultDue(ahead + "do a 9 fffff;judges 5;", at + 13);
        Check.faultDue(ahead + "show aaaaa aaaaa aaaaa;skater t;judges 5;", at + 32);
        Check.faultDue(ahead + "lasts 5;judges 1;skater t;judges 2;do a 9 ff;", NONE);
        IceJudge x = Check.read(ahead + "do b+a 600 fffff fall under;skater t;do d 0 fffff;");
        Check.due("count(20)", 1, () -> x.count(20));
        Check.due("count(21)", 1, () -> x.count(21));
        Check.due("attempt(0, 0, 2)", 1, () -> x.attempt(0, 0, 2));
        Check.due("attempt(0, 0, 3)", 0, () -> x.attempt(0, 0, 3));
        Check.due("attempt(1, 0, 2)", 3, () -> x.attempt(1, 0, 2));
    }

    private static void votes() {
        String ahead = "judges 3;" + JUMP + SKATER;
        int at = ahead.length();
        Check.faultDue(ahead + "do a 1 ak;", at + 7);
        Check.faultDue(ahead + "do a 1 akfa;", at + 7);
        Check.faultDue(ahead + "do a 1 afl;", at + 7);
        Check.faultDue(ahead + "do a 1 af k;", at + 7);
        Check.faultDue(ahead + "do a 1;", at + 6);
        Check.faultDue(ahead + "do a 1 5;", at + 7);
        Check.faultDue(ahead + "show abc def ghi;", NONE);
        Check.faultDue(ahead + "show abc def;", at + 12);
        Check.faultDue(ahead + "show abc def ghij;", at + 13);
        Check.faultDue(ahead + "show abc dex ghi;", at + 9);
        Check.faultDue(ahead + "show ab def ghi;", at + 5);
        Check.faultDue(ahead + "show abc def ghi jka;", at + 17);
        IceJudge x = Check.read("judges 9;" + JUMP + SKATER + "do a 1 abcdefghi;do a 2 kjihgfedc;"
                + "show aaaaaaaaa bbbbbbbbb ccccccccc;show abcdefghi kkkkkkkkk jjjjjjjjj;");
        for (int judge = 0; judge < 9; judge++) {
            int j = judge;
            Check.due("grade(0, 0, " + j + ")", j - 5, () -> x.grade(0, 0, j));
            Check.due("grade(0, 1, " + j + ")", 5 - j, () -> x.grade(0, 1, j));
            Check.due("mark(0, 0, " + j + ")", j, () -> x.mark(0, 0, j));
            Check.due("mark(0, 1, " + j + ")", 10, () -> x.mark(0, 1, j));
            Check.due("mark(0, 2, " + j + ")", 9, () -> x.mark(0, 2, j));
        }
    }

    private static void rules() {
        Check.faultDue("deduct falls+time-tries*jumps+spins-steps*late+struck-unders*edges;", NONE);
        Check.faultDue("deduct fall;", 7);
        Check.faultDue("deduct -1;", 7);
        Check.faultDue("deduct;", 6);
        Check.faultDue("deduct 1+;", 9);
        Check.faultDue("deduct 1 2;", 9);
        Check.faultDue("deduct 1+10000;", 9);
        Check.faultDue("deduct ((((1))));", NONE);
        Check.faultDue("deduct (((((1)))));", 11);
        Check.faultDue("deduct ((((1))))+((((2)))) if ((((1))))<(((time)));", NONE);
        Check.faultDue("deduct 1 if (1)=(((((2)))));", 20);
        Check.faultDue("deduct (1;", 9);
        Check.faultDue("deduct ();", 8);
        Check.faultDue("deduct 1);", 8);
        Check.faultDue("deduct 1 if 2;", 13);
        Check.faultDue("deduct 1 if 2<3<4;", 15);
        Check.faultDue("deduct 1 if (2<3);", 14);
        Check.faultDue("deduct 1 if 2<3 and;", 19);
        Check.faultDue("deduct 1 if 2<3 or 4=5 and 6>7;", NONE);
        Check.faultDue("deduct 1 if 2<3 nor 4=5;", 16);
        Check.faultDue("deduct 1 if 2<3 if 2<3;", 16);
        Check.faultDue("deduct 1 when 2<3;", 9);
        Check.faultDue("deduct 1 and 2;", 9);
        Check.faultDue("deduct 1 if 2<=3;", 14);
        Check.faultDue("deduct if 2<3;", 7);
        Check.faultDue("deduct 1if 2<3or 4<5and 6<7;", NONE);
    }

    private static void limits() {
        StringBuilder elements = new StringBuilder();
        for (char c = 'a'; c < 'k'; c++) {
            elements.append("element ").append(c).append(" jump 1;");
        }
        Check.faultDue(elements.toString(), NONE);
        Check.faultDue(elements + " element k jump 1;", elements.length() + 1);
        String skaters = "skater a;skater b;skater c;skater d;skater e;skater f;";
        Check.faultDue(skaters, NONE);
        Check.faultDue(skaters + "skater", skaters.length());
        String rules = "deduct 1;".repeat(6);
        Check.faultDue(rules, NONE);
        Check.faultDue(rules + "deduct 1;", rules.length());
        String tries = "judges 1;" + JUMP + SKATER + "do a 1 f;".repeat(12);
        Check.faultDue(tries, NONE);
        Check.faultDue(tries + "do a 1 f;", tries.length());
        Check.faultDue(tries + "skater t;do a 0 f;", NONE);
    }

    private static void tokens() {
        Check.faultDue("element\n\ta\tjump\n10 ; skater\ts ;\n", NONE);
        Check.faultDue("elementa jump 10;", 0);
        Check.faultDue("element a jump10;drop1;factor1 2 3;", NONE);
        Check.faultDue("element a jump 10\r;", 17);
        Check.faultDue("drop 1;" + (char) 255, 7);
        Check.faultDue("drop 1" + (char) 0 + ";", 6);
        Check.faultDue("drop 1;" + (char) 233 + "x", 7);
        Check.faultDue("elem", 0);
        Check.faultDue("element a ju", 10);
    }
}
