/** "Terms", THE TEXT: how much of each there is at most, and the bounds of each number, on both sides. */
public final class TextBoundsTest {
    private static final int NONE = IceJudge.NONE;
    private static final String JUMP = "element a jump 5;";
    private static final String SKATER = "skater s;";

    public static void main(String[] args) {
        sixHundredBytes();
        lastOfSixHundred();
        firstBytesAlone();
        lines();
        lettersOfNames();
        lengthsOfNames();
        digits();
        gradesOfEachJudge();
        marksOfEachJudge();
        lettersOfVotes();
        openWithinOneAnother();
        blanks();
        blanksBetweenAll();
        wordsAndNumbersEnd();
        tenElements();
        sixRules();
        sixSkaters();
        twelveAttempts();
        Check.finish();
    }

    private static void sixHundredBytes() {
        Check.says("THE TEXT has at most 600 bytes");
        String line = "skater s;";
        String blanks = " ".repeat(600 - line.length());
        Check.asked(blanks + line, "count(1)", 1, x -> x.count(1));
        Check.asked(line + blanks, "count(1)", 1, x -> x.count(1));
        Check.faultDue(blanks + "skater s:", 599);
        Check.faultDue(blanks + " skater s", 600);
        Check.faultDue("judges 1;" + JUMP + SKATER + "do a 1 f;".repeat(12) + " ".repeat(456) + "d", 599);
        IceJudge x = new IceJudge();
        for (int i = 0; i < 30; i++) {
            x.feed(0x20202020, 0x20202020, 0x20202020, 0x20202020, 0x20202020);
        }
        Check.due("a 31st feed", NONE, () -> x.feed(0x20202020, 0x20202020, 0x20202020, 0x20202020, 0x20202020));
        Check.due("how many it has", 600, () -> Check.taped(x));
        Check.due("read()", 0, x::read);
    }

    private static void lastOfSixHundred() {
        Check.says("THE TEXT has at most 600 bytes");
        String[] ends = {"drop 1", "drop", "skater ab", "skater a ", "deduct 1+", "deduct 1 if 2", "deduct falls",
            "judges 2;element a jump 5;skater s;do a 5 ff", "judges 2;skater s;show ff", "judges 2;element a jump 5;skater s;do a+"};
        for (String end : ends) {
            Check.faultDue(" ".repeat(600 - end.length()) + end, 600);
        }
    }

    private static void firstBytesAlone() {
        Check.says("The TAPE has its first n bytes alone");
        String[] texts = {"drop 12;", "skater ab;", "drop 1;7", "deduct 1+2;"};
        int[] first = {6, 8, 7, 9};
        int[] fault = {6, 8, NONE, 9};
        for (int i = 0; i < texts.length; i++) {
            IceJudge x = new IceJudge();
            Check.put(x, texts[i]);
            int n = first[i];
            Check.due("end(" + n + ") of " + texts[i], 1, () -> Check.truth(x.end(n)));
            Check.outcome(x::read);
            Check.due("fault() of the first " + n + " of " + texts[i], fault[i], x::fault);
        }
        IceJudge x = new IceJudge();
        Check.put(x, "skater ab;");
        x.end(8);
        Check.due("feed behind the first 8", 28, () -> x.feed(0x633b2020, 0x20202020, 0x20202020, 0x20202020, 0x20202020));
        Check.due("read()", 1, x::read);
        Check.due("name(true, 0, 1)", 'c', () -> x.name(true, 0, 1));
    }

    private static void lines() {
        Check.says("{ LINE ; }");
        Check.asked("", "count(1)", 0, x -> x.count(1));
        Check.asked(" \n\t", "count(1)", 0, x -> x.count(1));
        Check.asked("skater a;", "count(1)", 1, x -> x.count(1));
        Check.asked("skater a;skater b;", "count(1)", 2, x -> x.count(1));
        Check.faultDue("skater a", 8);
        Check.faultDue("skater a;;", 9);
        Check.faultDue("skater a skater b;", 9);
        Check.faultDue("skater a;skater b", 17);
    }

    private static void lettersOfNames() {
        Check.says("NAME: 1 to 6 letters a to z (any such word)");
        Check.asked("skater az;", "name(true, 0, 0)", 'a', x -> x.name(true, 0, 0));
        Check.asked("skater az;", "name(true, 0, 1)", 'z', x -> x.name(true, 0, 1));
        Check.asked("element za spin 5;", "name(false, 0, 0)", 'z', x -> x.name(false, 0, 0));
        Check.asked("element za spin 5;", "name(false, 0, 1)", 'a', x -> x.name(false, 0, 1));
        char[] others = {'`', '{', 'A', 'Z', '@', '[', '0', '_', (char) (128 + 'a'), (char) 0};
        for (char other : others) {
            Check.faultDue("skater " + other + ";", 7);
            Check.faultDue("skater a" + other + ";", 8);
            Check.faultDue("element " + other + " spin 5;", 8);
            Check.faultDue(JUMP + SKATER + "do " + other + " 5 fffff;", 29);
        }
        String[] words = {"elemen", "judges", "drop", "factor", "half", "late", "repeat", "deduct", "if", "skater", "do",
            "show", "lasts", "jump", "spin", "steps", "under", "edge", "fall", "falls", "time", "tries", "or", "and"};
        for (String word : words) {
            Check.faultDue("element " + word + " jump 5;skater " + word + ";do " + word + "+" + word + " 5 fffff;", NONE);
        }
    }

    private static void lengthsOfNames() {
        Check.says("NAME: 1 to 6 letters");
        String letters = "abcdefgh";
        for (int n = 1; n <= 8; n++) {
            String name = letters.substring(0, n);
            Check.faultDue("skater " + name + ";", n <= 6 ? NONE : 7);
            Check.faultDue("element " + name + " jump 5;", n <= 6 ? NONE : 8);
            Check.faultDue("element abcdef jump 5;" + SKATER + "do " + name + " 5 fffff;", n == 6 ? NONE : 34);
        }
        Check.faultDue("skater ;", 7);
        Check.faultDue("element jump;", 12);
        Check.faultDue("element abcdef jump 5;element abcdeg jump 6;element abcde jump 7;", NONE);
        Check.asked("skater abcdef;skater abcdeg;", "name(true, 1, 5)", 'g', x -> x.name(true, 1, 5));
    }

    private static void digits() {
        Check.says("N: 1 to 4 digits");
        Check.asked("half 9;", "count(4)", 9, x -> x.count(4));
        Check.asked("half 09;", "count(4)", 9, x -> x.count(4));
        Check.asked("half 009;", "count(4)", 9, x -> x.count(4));
        Check.asked("half 0009;", "count(4)", 9, x -> x.count(4));
        Check.asked("half 0490;", "count(4)", 490, x -> x.count(4));
        Check.faultDue("half 00009;", 5);
        Check.faultDue("half 00000;", 5);
        Check.faultDue("half 4294967297;", 5);
        Check.faultDue("half " + "0".repeat(590) + ";", 5);
        Check.faultDue("half ;", 5);
        Check.faultDue("half /;", 5);
        Check.faultDue("half :;", 5);
        Check.faultDue("half 1/;", 6);
        Check.faultDue("half 1:;", 6);
        Check.faultDue("half +1;", 5);
        Check.asked("deduct 9999;" + SKATER, "rule(0, 0)", 9999, x -> x.rule(0, 0));
        Check.faultDue("deduct 10000;", 7);
        Check.faultDue("deduct 1+09999 if 2<03;", 9);
        Check.faultDue("deduct 1+0999 if 2<00003;", 19);
    }

    private static void gradesOfEachJudge() {
        Check.says("GRADES: as many letters a to k as there are JUDGES, one of each, the first JUDGE's first");
        for (int judges = 1; judges <= 9; judges++) {
            String ahead = "judges " + judges + ";" + JUMP + SKATER + "do a 1 ";
            Check.faultDue(ahead + "f".repeat(judges) + ";", NONE);
            Check.faultDue(ahead + "f".repeat(judges + 1) + ";", ahead.length());
            Check.faultDue(ahead + "f".repeat(judges - 1) + ";", ahead.length());
            Check.asked(ahead + "f".repeat(judges - 1) + "h;", "the last grade", 2, x -> x.grade(0, 0, x.count(2) - 1));
            Check.asked(ahead + "h" + "f".repeat(judges - 1) + ";", "the first grade", 2, x -> x.grade(0, 0, 0));
        }
        Check.faultDue(JUMP + SKATER + "do a 1 fffff;", NONE);
        Check.faultDue(JUMP + SKATER + "do a 1 ffff;", 33);
    }

    private static void marksOfEachJudge() {
        Check.says("MARKS likewise");
        for (int judges = 1; judges <= 9; judges++) {
            String ahead = "judges " + judges + ";" + SKATER + "show ";
            String marks = "f".repeat(judges);
            String[] wrong = {"f".repeat(judges + 1), "f".repeat(judges - 1), "f".repeat(judges - 1) + "l"};
            Check.faultDue(ahead + marks + " " + marks + " " + marks + ";", NONE);
            for (String other : wrong) {
                Check.faultDue(ahead + other + ";", ahead.length());
                Check.faultDue(ahead + marks + " " + other + ";", ahead.length() + judges + 1);
                Check.faultDue(ahead + marks + " " + marks + " " + other + ";", ahead.length() + 2 * judges + 2);
            }
            Check.faultDue(ahead + marks + " " + marks + ";", ahead.length() + 2 * judges + 1);
            Check.faultDue(ahead + (marks + " ").repeat(4) + ";", ahead.length() + 3 * judges + 3);
        }
    }

    private static void lettersOfVotes() {
        Check.says("a tells -5, b -4, .. k 5; MARKS likewise: a 0, b 1, .. k 10");
        for (int i = 0; i <= 10; i++) {
            char letter = (char) ('a' + i);
            int told = i;
            Check.asked("judges 2;" + JUMP + SKATER + "do a 1 f" + letter + ";", "grade", told - 5, x -> x.grade(0, 0, 1));
            Check.asked("judges 2;" + SKATER + "show aa ka a" + letter + ";", "mark", told, x -> x.mark(0, 2, 1));
        }
        char[] others = {'l', 'z', '`', '{', 'A', 'K', '5', (char) (128 + 'b')};
        for (char other : others) {
            Check.faultDue("judges 1;" + JUMP + SKATER + "do a 1 " + other + ";", 42);
            Check.faultDue("judges 1;" + SKATER + "show " + other + " a a;", 23);
        }
        Check.faultDue("judges 2;" + JUMP + SKATER + "do a 1 fl;", 42);
        Check.faultDue("judges 2;" + JUMP + SKATER + "do a 1 lf;", 42);
        Check.faultDue("judges 2;" + JUMP + SKATER + "do a 1 f5;", 42);
    }

    private static void openWithinOneAnother() {
        Check.says("at most 4 ( within one another");
        String four = "((((1))))";
        String five = "(((((1)))))";
        Check.asked("deduct " + four + ";" + SKATER, "rule(0, 0)", 1, x -> x.rule(0, 0));
        Check.asked("deduct " + four + "+" + four + "*" + four + "-(1)*(1);" + SKATER, "rule(0, 0)", 1, x -> x.rule(0, 0));
        Check.asked("deduct ((((1)+1)+1)+1);" + SKATER, "rule(0, 0)", 4, x -> x.rule(0, 0));
        Check.asked("deduct 7 if " + four + "=" + four + " and " + four + ">0 or 1<" + four + ";" + SKATER,
                "rule(0, 0)", 7, x -> x.rule(0, 0));
        Check.faultDue("deduct " + five + ";", 11);
        Check.faultDue("deduct " + four + "+" + five + ";", 21);
        Check.faultDue("deduct " + four + "*" + five + ";", 21);
        Check.faultDue("deduct (1+(2+(3+(4+(5)))));", 19);
        Check.faultDue("deduct ((((1)+(2))));", NONE);
        Check.faultDue("deduct ((((1)+((2)))));", 15);
        Check.faultDue("deduct 1 if " + five + "=1;", 16);
        Check.faultDue("deduct 1 if 1=" + five + ";", 18);
        Check.faultDue("deduct 1 if 1=1 and " + five + "=1;", 24);
        Check.faultDue("deduct 1 if 1=1 or 1=" + five + ";", 25);
        Check.faultDue("deduct " + "(".repeat(580) + ";", 11);
        Check.faultDue("deduct ((((", 11);
    }

    private static void blanks() {
        Check.says("BLANKS (9, 10, 32) may stand between all");
        for (int octet = 0; octet < 256; octet++) {
            char c = (char) octet;
            boolean blank = octet == 9 || octet == 10 || octet == 32;
            boolean small = octet >= 'a' && octet <= 'z';
            boolean digit = octet >= '0' && octet <= '9';
            Check.faultDue("drop" + c + "3;", blank || c == '0' ? NONE : small ? 0 : 4);
            Check.faultDue(c + "drop 3;", blank ? NONE : 0);
            Check.faultDue("drop 3" + c, blank ? 7 : digit ? 5 : octet == ';' ? NONE : 6);
            Check.faultDue("drop 3;" + c, blank ? NONE : 7);
        }
    }

    private static void blanksBetweenAll() {
        Check.says("BLANKS (9, 10, 32) may stand between all");
        String[] tokens = {"element", "a", "jump", "70", ";", "judges", "2", ";", "factor", "1", "2", "3", ";", "deduct", "(",
            "1", "+", "falls", ")", "*", "2", "-", "1", "if", "1", "<", "2", "and", "3", ">", "2", "or", "1", "=", "1", ";",
            "skater", "s", ";", "do", "a", "+", "a", "9", "fg", "under", "fall", ";", "show", "aa", "bb", "cc", ";", "lasts", "7", ";"};
        String[] between = {" ", "\n", "\t", " \n\t ", "   "};
        for (String blank : between) {
            String text = blank + String.join(blank, tokens) + blank;
            Check.asked(text, "attempt(0, 0, 1)", 2, x -> x.attempt(0, 0, 1));
            Check.asked(text, "rule(0, 0)", 3, x -> x.rule(0, 0));
            Check.asked(text, "mark(0, 2, 1)", 2, x -> x.mark(0, 2, 1));
        }
        Check.faultDue("element a jump 7 0;", 17);
        Check.faultDue("elem ent a jump 70;", 0);
        Check.faultDue("skater a b;", 9);
    }

    private static void wordsAndNumbersEnd() {
        Check.says("words are as many small letters as stand there, N as many digits");
        Check.asked("drop3;half7;factor1 2 3;element a jump10;", "count(4)", 7, x -> x.count(4));
        Check.asked(JUMP + SKATER + "do a+a9fffff under;", "time", 9, x -> x.attempt(0, 0, 0));
        Check.faultDue("dropx3;", 0);
        Check.faultDue("skaters;", 0);
        Check.faultDue("element ajump 5;", 14);
        Check.faultDue("element a jumpx 5;", 10);
        Check.faultDue("element a jum 5;", 10);
        Check.faultDue(JUMP + SKATER + "do a 9fffffunder;", 32);
        Check.faultDue(JUMP + SKATER + "do a 9 fffff underfall;", 39);
        Check.faultDue("deduct fallstime;", 7);
        Check.faultDue("deduct 1 if 1<2and3<4;", NONE);
        Check.faultDue("deduct 1 if 1<2 andfalls<4;", 16);
    }

    private static void tenElements() {
        Check.says("element: an ELEMENT (10 at most, numbered from 0 on as they come)");
        StringBuilder ten = new StringBuilder();
        for (char c = 'a'; c <= 'j'; c++) {
            ten.append("element ").append(c).append(" jump ").append(c - 'a').append(';');
        }
        Check.asked(ten.toString(), "count(0)", 10, x -> x.count(0));
        for (int i = 0; i < 10; i++) {
            int element = i;
            Check.asked(ten.toString(), "BASE of " + i, element, x -> x.element(element, 0));
            Check.asked(ten.toString(), "NAME of " + i, 'a' + element, x -> x.name(false, element, 0));
        }
        Check.refused(ten.toString(), "element(10, 0)", IndexOutOfBoundsException.class, x -> x.element(10, 0));
        Check.faultDue(ten + "element k jump 1;", ten.length());
        Check.faultDue(ten + "element", ten.length());
        Check.faultDue(ten + SKATER + "element a jump 1;", ten.length() + SKATER.length());
        Check.asked(ten + SKATER + "do j 1 fffff;", "the tenth", 9, x -> x.attempt(0, 0, 2));
    }

    private static void sixRules() {
        Check.says("deduct: a RULE (6 at most, numbered likewise)");
        String six = "deduct 1;deduct 2;deduct 3;deduct 4;deduct 5;deduct 6;";
        Check.asked(six, "count(10)", 6, x -> x.count(10));
        for (int i = 0; i < 6; i++) {
            int r = i;
            Check.asked(six + SKATER, "rule(0, " + r + ")", r + 1, x -> x.rule(0, r));
        }
        Check.faultDue(six + "deduct 7;", six.length());
        Check.faultDue(six + SKATER + " deduct", six.length() + SKATER.length() + 1);
    }

    private static void sixSkaters() {
        Check.says("skater: a SKATER (6 at most, numbered likewise)");
        String six = "skater a;skater b;skater c;skater d;skater e;skater f;";
        Check.asked(six, "count(1)", 6, x -> x.count(1));
        for (int i = 0; i < 6; i++) {
            int skater = i;
            Check.asked(six, "NAME of " + i, 'a' + i, x -> x.name(true, skater, 0));
        }
        Check.faultDue(six + "skater g;", six.length());
        Check.faultDue(six + "skater a;", six.length());
        IceJudge x = new IceJudge();
        Check.put(x, six);
        Check.due("read()", 6, x::read);
    }

    private static void twelveAttempts() {
        Check.says("do: an ATTEMPT (12 at most of each, numbered likewise) of the SKATER told latest");
        String ahead = "judges 1;" + JUMP;
        StringBuilder twelve = new StringBuilder();
        for (int i = 0; i < 12; i++) {
            twelve.append("do a ").append(i).append(" f;");
        }
        String one = ahead + SKATER + twelve;
        Check.asked(one, "count(20)", 12, x -> x.count(20));
        for (int i = 0; i < 12; i++) {
            int k = i;
            Check.asked(one, "time of " + k, k, x -> x.attempt(0, k, 0));
        }
        Check.refused(one, "attempt(0, 12, 0)", IndexOutOfBoundsException.class, x -> x.attempt(0, 12, 0));
        Check.faultDue(one + "do a 12 f;", one.length());
        String four = one + "skater t;" + twelve + "skater u;" + twelve + "skater v;" + twelve;
        for (int i = 0; i < 4; i++) {
            int skater = i;
            Check.asked(four, "count of " + skater, 12, x -> x.count(20 + skater));
        }
        Check.faultDue(four + "do a 12 f;", four.length());
        Check.asked(one + "skater t;do a 0 k;", "ATTEMPTS of the latest", 1, x -> x.count(21));
        Check.asked(one + "skater t;do a 0 k;", "ATTEMPTS of the one ahead", 12, x -> x.count(20));
    }
}
