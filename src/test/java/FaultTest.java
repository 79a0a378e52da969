/** "Terms", THE FAULT: each of the cases that it names, beside the like text that is right. */
public final class FaultTest {
    private static final int NONE = IceJudge.NONE;
    private static final String JUMP = "element a jump 5;";
    private static final String SKATER = "skater s;";
    private static final String[] TOKENS = {"element", "ax", "jump", "70", ";", "element", "sp", "spin", "0", ";", "element",
        "st", "steps", "2000", ";", "judges", "3", ";", "drop", "1", ";", "factor", "100", "50", "200", ";", "half", "60", ";",
        "late", "10", ";", "repeat", "1", ";", "deduct", "falls", "*", "50", "+", "(", "10", "-", "time", ")", "if", "falls",
        ">", "0", "and", "tries", "=", "2", "or", "(", "late", ")", "*", "2", "<", "struck", ";", "deduct", "9999", ";",
        "skater", "ann", ";", "lasts", "120", ";", "do", "ax", "+", "ax", "+", "ax", "10", "ghi", "edge", "under", "fall", ";",
        "do", "sp", "10", "aab", "fall", ";", "show", "kji", "cde", "fff", ";", "skater", "bob", ";", "do", "st", "0", "kkk", ";"};

    public static void main(String[] args) {
        moreMustCome();
        anyOtherByte();
        tooLong();
        outOfBounds();
        namesToldOrNot();
        votes();
        wordsThatCannotStand();
        tooMany();
        joining();
        callsTwice();
        fifthOpen();
        wordCutOff();
        firstOfSeveral();
        firstOfTwoLines();
        behindVotes();
        ofTheLatestRead();
        Check.finish();
    }

    private static void moreMustCome() {
        Check.says("the text's length, if more must come");
        StringBuilder text = new StringBuilder();
        for (String token : TOKENS) {
            boolean whole = text.length() == 0 || text.toString().endsWith("; ");
            Check.faultDue(text.toString(), whole ? NONE : text.length());
            Check.faultDue(text + " \n", whole ? NONE : text.length() + 2);
            text.append(token).append(' ');
        }
        Check.faultDue(text.toString(), NONE);
    }

    private static void anyOtherByte() {
        Check.says("the first byte with which no such text goes on");
        StringBuilder text = new StringBuilder();
        String rest = String.join(" ", TOKENS);
        for (String token : TOKENS) {
            for (char other : new char[] {'?', (char) 0, (char) 1, (char) 255, 'A'}) {
                Check.faultDue(text.toString() + other, text.length());
                Check.faultDue(text.toString() + other + rest.substring(0, Math.min(rest.length(), 599 - text.length())), text.length());
            }
            text.append(token).append(' ');
        }
    }

    private static void tooLong() {
        Check.says("a word, a number at its first byte: one too long");
        Check.faultDue("skater abcdef;", NONE);
        Check.faultDue("skater abcdefg;", 7);
        Check.faultDue("skater  abcdefghijklmnopqrstuvwxyz;", 8);
        Check.faultDue("element abcdefg jump 5;", 8);
        Check.faultDue("drop 0003;", NONE);
        Check.faultDue("drop 00003;", 5);
        Check.faultDue("factor 1 00001 1;", 9);
        Check.faultDue(JUMP + SKATER + "do a 00005 fffff;", 31);
        Check.faultDue("deduct 00001;", 7);
        Check.faultDue("deduct 1*(2-00001);", 12);
    }

    private static void outOfBounds() {
        Check.says("a word, a number at its first byte: .. out of bounds");
        Check.faultDue("judges  0;", 8);
        Check.faultDue("judges  10;", 8);
        Check.faultDue("drop\t4;", 5);
        Check.faultDue("half 601;", 5);
        Check.faultDue("late 51;", 5);
        Check.faultDue("repeat 0;", 7);
        Check.faultDue("repeat 4;", 7);
        Check.faultDue("factor 300 300 301;", 15);
        Check.faultDue("element a jump 2001;", 15);
        Check.faultDue(SKATER + "lasts 601;", 15);
        Check.faultDue(JUMP + SKATER + "do a 601 fffff;", 31);
        Check.faultDue(JUMP + SKATER + "do a 9 fffff;do a 8 fffff;", 44);
    }

    private static void namesToldOrNot() {
        Check.says("a NAME told already, or not told");
        Check.faultDue(SKATER + "skater  s;", 17);
        Check.faultDue(JUMP + "element  a spin 5;", 26);
        Check.faultDue(JUMP + SKATER + "do  b 5 fffff;", 30);
        Check.faultDue(JUMP + SKATER + "do a + b 5 fffff;", 33);
        Check.faultDue(JUMP + SKATER + "do a + a + b 5 fffff;", 37);
        Check.faultDue(JUMP + SKATER + "do aa 5 fffff;", 29);
        Check.faultDue("skater s;do a 5 fffff;", 12);
    }

    private static void votes() {
        Check.says("GRADES, MARKS with other letters, or more or fewer");
        String ahead = "judges 3;" + JUMP + SKATER;
        int at = ahead.length();
        String[] wrong = {"ffl", "lff", "fzf", "ffff", "ff", "under", "abcdefghijklmnop"};
        for (String other : wrong) {
            Check.faultDue(ahead + "do a 5 " + other + ";", at + 7);
            Check.faultDue(ahead + "do a 5 " + other, at + 7);
            Check.faultDue(ahead + "show " + other + " aaa aaa;", at + 5);
            Check.faultDue(ahead + "show aaa " + other + " aaa;", at + 9);
            Check.faultDue(ahead + "show aaa aaa " + other + ";", at + 13);
        }
        Check.faultDue(ahead + "do a 5 fff;show abk kba fff;", NONE);
        Check.faultDue(ahead + "do a 5 ff f;", at + 7);
        Check.faultDue(ahead + "do a 5 fff f;", at + 11);
        Check.faultDue("judges 4;" + JUMP + SKATER + "do a 5 edge edge;", NONE);
    }

    private static void wordsThatCannotStand() {
        Check.says("a word that can't stand there now");
        Check.faultDue(JUMP + "do a 5 fffff;", 17);
        Check.faultDue(JUMP + "show aaaaa aaaaa aaaaa;", 17);
        Check.faultDue(JUMP + "lasts 5;", 17);
        Check.faultDue(JUMP + SKATER + "do a 5 fffff; judges 5;", 40);
        Check.faultDue(JUMP + SKATER + "show aaaaa aaaaa aaaaa; judges 5;", 50);
        Check.faultDue("elements a jump 5;", 0);
        Check.faultDue("jump;", 0);
        Check.faultDue("deduct jump;", 7);
        Check.faultDue("deduct 1 or 2=3;", 9);
        Check.faultDue("deduct 1 if 2=3 if 2=3;", 16);
        Check.faultDue(JUMP + SKATER + "do a 5 fffff late;", 39);
        Check.faultDue("drop drop;", 5);
    }

    private static void tooMany() {
        Check.says("an eleventh element, a seventh deduct, skater, a 13th do at that word");
        StringBuilder ten = new StringBuilder();
        for (char c = 'a'; c <= 'j'; c++) {
            ten.append("element ").append(c).append(" jump 1;");
        }
        Check.faultDue(ten.toString(), NONE);
        Check.faultDue(ten + " element k jump 1;", ten.length() + 1);
        String rules = "deduct 1 if 2=3;".repeat(6);
        Check.faultDue(rules, NONE);
        Check.faultDue(rules + "\ndeduct 1;", rules.length() + 1);
        String skaters = "skater a;skater b;skater c;skater d;skater e;skater f;";
        Check.faultDue(skaters, NONE);
        Check.faultDue(skaters + "\tskater g;", skaters.length() + 1);
        String tries = "judges 1;" + JUMP + SKATER + "do a 1 f;".repeat(12);
        Check.faultDue(tries, NONE);
        Check.faultDue(tries + " do a 1 f;", tries.length() + 1);
        Check.faultDue(tries + " do ?", tries.length() + 1);
    }

    private static void joining() {
        Check.says("a third +, one behind an ELEMENT that is no jump at it; behind a + a NAME of one that is none");
        String ahead = JUMP + "element b spin 5;element c steps 5;" + SKATER;
        int at = ahead.length();
        Check.faultDue(ahead + "do a + a + a 5 fffff;", NONE);
        Check.faultDue(ahead + "do a + a + a + a 5 fffff;", at + 13);
        Check.faultDue(ahead + "do a + a + a + ?", at + 13);
        Check.faultDue(ahead + "do b 5 fffff;", NONE);
        Check.faultDue(ahead + "do b + a 5 fffff;", at + 5);
        Check.faultDue(ahead + "do c + ?", at + 5);
        Check.faultDue(ahead + "do a + b 5 fffff;", at + 7);
        Check.faultDue(ahead + "do a + c 5 fffff;", at + 7);
        Check.faultDue(ahead + "do a + a + b + ?", at + 11);
    }

    private static void callsTwice() {
        Check.says("a CALL for the second time in one do");
        String ahead = JUMP + SKATER + "do a 5 fffff ";
        int at = ahead.length();
        Check.faultDue(ahead + "under edge fall;do a 5 fffff under edge fall;", NONE);
        Check.faultDue(ahead + "fall under edge;", NONE);
        Check.faultDue(ahead + "under under;", at + 6);
        Check.faultDue(ahead + "edge edge;", at + 5);
        Check.faultDue(ahead + "fall fall;", at + 5);
        Check.faultDue(ahead + "under edge fall under;", at + 16);
        Check.faultDue(ahead + "under edge fall edge;", at + 16);
        Check.faultDue(ahead + "under edge fall fall;", at + 16);
        Check.faultDue(ahead + "fall edge under over;", at + 16);
    }

    private static void fifthOpen() {
        Check.says("a fifth ( at it");
        Check.faultDue("deduct ( ( ( ( 1 ) ) ) );", NONE);
        Check.faultDue("deduct ( ( ( ( ( 1 ) ) ) ) );", 15);
        Check.faultDue("deduct ( ( ( ( (", 15);
        Check.faultDue("deduct ( ( ( (", 14);
        Check.faultDue("deduct 1 if ( ( ( ( ( 1", 20);
        Check.faultDue("deduct 1 if 1 < ( ( ( ( ( 1", 24);
    }

    private static void wordCutOff() {
        Check.says("a word .. at its first byte");
        Check.faultDue("elem", 0);
        Check.faultDue("drop 1; dro", 8);
        Check.faultDue("element a ju", 10);
        Check.faultDue("element a jump", 14);
        Check.faultDue("deduct fall", 7);
        Check.faultDue("deduct falls", 12);
        Check.faultDue("deduct 1 i", 9);
        Check.faultDue("deduct 1 if", 11);
        Check.faultDue(JUMP + SKATER + "do a 5 fff", 33);
        Check.faultDue(JUMP + SKATER + "do a 5 fffff", 38);
        Check.faultDue(JUMP + SKATER + "do a 5 fffff fal", 39);
        Check.faultDue(JUMP + SKATER + "do a 5 fffff fall", 43);
    }

    private static void firstOfSeveral() {
        Check.says("the first byte with which no such text goes on");
        Check.faultDue("drop 4;half 601;late 51;", 5);
        Check.faultDue("drop 3;half 601;late 51;", 12);
        Check.faultDue("drop 3;half 600;late 51;", 21);
        Check.faultDue("skater abcdefg 5;", 7);
        Check.faultDue("do abcdefg 601 x;", 0);
        Check.faultDue("factor 301 301 301;", 7);
    }

    private static void firstOfTwoLines() {
        Check.says("the first byte with which no such text goes on");
        String[] cut = {"element", "element b", "element b jump", "judges", "drop", "half", "late", "repeat", "factor", "factor 1",
            "factor 1 2", "deduct", "deduct 1+", "deduct 1*", "deduct (1", "deduct 1 if", "deduct 1 if 2", "deduct 1 if 2<",
            "deduct 1 if 2<3 and", "deduct 1 if 2<3 or 4", "deduct 1 if 2<3+", "skater", "lasts", "do", "do a", "do a+", "do a 5",
            "show", "show aaaaa", "show aaaaa aaaaa"};
        for (String line : cut) {
            int at = JUMP.length() + SKATER.length() + line.length();
            Check.faultDue(JUMP + SKATER + line + ";", at);
            Check.faultDue(JUMP + SKATER + line + ";?", at);
            Check.faultDue(JUMP + SKATER + line + ";drop 4;", at);
        }
    }

    private static void behindVotes() {
        Check.says("the first byte with which no such text goes on");
        char[] others = {'{', '}', (char) 255, 'A', '`', '?', '5'};
        for (char other : others) {
            Check.faultDue(JUMP + SKATER + "do a 5 fffff" + other, 38);
            Check.faultDue(JUMP + SKATER + "show fffff" + other, 36);
            Check.faultDue(JUMP + SKATER + "show fffff fffff fffff" + other, 48);
        }
    }

    private static void ofTheLatestRead() {
        Check.says("THE FAULT of the latest read(); NONE without one, and ahead of any");
        IceJudge x = new IceJudge();
        Check.due("fault() ahead of any", NONE, x::fault);
        Check.put(x, "drop 4;");
        Check.due("fault() ahead of the read", NONE, x::fault);
        Check.throwsDue("read()", IllegalArgumentException.class, x::read);
        Check.due("fault()", 5, x::fault);
        Check.put(x, "drop");
        Check.due("fault() of the latest", 5, x::fault);
        Check.throwsDue("read()", IllegalArgumentException.class, x::read);
        Check.due("fault()", 4, x::fault);
        Check.due("read() of none", 0, x::read);
        Check.due("fault() of none", NONE, x::fault);
        Check.put(x, "?");
        Check.throwsDue("read()", IllegalArgumentException.class, x::read);
        Check.due("fault()", 0, x::fault);
        Check.put(x, "skater a;");
        Check.due("read()", 1, x::read);
        Check.due("fault() of a right one", NONE, x::fault);
    }
}
