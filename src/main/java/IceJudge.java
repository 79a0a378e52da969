import java.util.Arrays;
import java.util.NoSuchElementException;

/**
 * Judges what is skated on ice: reads elements, settings, rules and skaters from a text and tells
 * points, totals and ranks, by all judges, by some of them, and as they could be.
 */
public final class IceJudge {
    public static final int NONE = -1;

    private static final int TEXT_MOST = 600;
    private static final int FED_AT_ONCE = 20;
    private static final int DIGITS_MOST = 4;
    private static final int LETTERS_MOST = 6;
    private static final int ELEMENTS_MOST = 10;
    private static final int SKATERS_MOST = 6;
    private static final int ATTEMPTS_MOST = 12;
    private static final int JOINED_MOST = 3;
    private static final int JUDGES_MOST = 9;
    private static final int COMPONENTS = 3;
    private static final int RULES_MOST = 6;
    private static final int ACTS_MOST = 16;
    private static final int BASE_MOST = 2000;
    private static final int TIME_MOST = 600;
    private static final int GRADE_LEAST = -5;
    private static final int GRADE_MOST = 5;
    private static final int MARK_MOST = 10;
    private static final int JUDGES_FIRST = 5;
    private static final int NO_GRADE = -100;

    // Of the kinds, jump, spin and steps from 0 on, only this one has rules of its own.
    private static final int JUMP = 0;

    private static final int UNDER = 1;
    private static final int EDGE = 2;
    private static final int FALL = 4;
    private static final int ALL_CALLS = UNDER | EDGE | FALL;
    private static final int CALLS = 3;

    private static final int DROP = 0;
    private static final int HALF = 1;
    private static final int LATE = 2;
    private static final int REPEAT = 3;
    private static final int FACTOR = 4;
    private static final int SETTINGS = 7;
    private static final int[] SETTING_LEAST = {0, 0, 0, 1, 0, 0, 0};
    private static final int[] SETTING_MOST = {3, 600, 50, 3, 300, 300, 300};
    private static final int[] SETTING_FIRST = {1, 120, 10, 2, 100, 100, 100};

    private final int[] tape = new int[TEXT_MOST];
    private int taped = 0;
    private int faultAt = NONE;
    // A text is read into the spare one, so that a wrong text leaves the other as it is.
    private Event now = new Event();
    private Event spare = new Event();
    private final Reader reader = new Reader(tape, spare);
    private final Standings standings = new Standings(now);
    private final Acts acts = new Acts();
    private final Protocol protocol = new Protocol();

    public IceJudge() {
    }

    // ---- the text

    public int feed(int a, int b, int c, int d, int e) {
        if (taped + FED_AT_ONCE > TEXT_MOST) {
            return NONE;
        }
        tapeNumber(a);
        tapeNumber(b);
        tapeNumber(c);
        tapeNumber(d);
        tapeNumber(e);
        return taped;
    }

    public boolean end(int n) {
        if (n < 0 || n > taped) {
            return false;
        }
        taped = n;
        return true;
    }

    public int read() throws IllegalArgumentException {
        int size = taped;
        taped = 0;
        faultAt = reader.faultOf(size, spare);
        if (faultAt != NONE) {
            throw new IllegalArgumentException("the text is wrong");
        }
        Event old = now;
        now = spare;
        spare = old;
        acts.forget();
        return now.skaterNames.size;
    }

    public int fault() {
        return faultAt;
    }

    public int name(boolean skater, int i, int k) throws IndexOutOfBoundsException {
        if (skater) {
            wantSkater(i);
            return now.skaterNames.letter(i, k);
        }
        wantElement(i);
        return now.elementNames.letter(i, k);
    }

    public int element(int element, int what) throws IndexOutOfBoundsException, NoSuchElementException {
        wantElement(element);
        switch (what) {
            case 0: return now.bases[element];
            case 1: return now.kinds[element];
            default: throw new NoSuchElementException("an element has no such what");
        }
    }

    // ---- attempts, totals

    public int attempt(int skater, int k, int what) throws IndexOutOfBoundsException, NoSuchElementException {
        wantAttempt(skater, k);
        Skating skating = now.skatings[skater];
        Tally tally = tallied(skater);
        switch (what) {
            case 0: return skating.times[k];
            case 1: return skating.joined[k];
            case 2: return skating.elementAt(k, 0);
            case 3: return skating.elementAt(k, 1);
            case 4: return skating.elementAt(k, 2);
            case 5: return skating.calls[k];
            case 6: return tally.isLate(k) ? 1 : 0;
            case 7: return tally.struck[k];
            case 8: return tally.worthOf(k);
            case 9: return tally.gainOf(k, everyJudge());
            case 10: return tally.pointsOf(k, everyJudge());
            default: throw new NoSuchElementException("an attempt has no such what");
        }
    }

    public int grade(int skater, int k, int judge) throws IndexOutOfBoundsException {
        wantAttempt(skater, k);
        wantJudge(judge);
        return now.skatings[skater].votes[voteOfGrade(k, judge)];
    }

    public int mean(int skater, int k) throws IndexOutOfBoundsException {
        wantAttempt(skater, k);
        return tallied(skater).trimmed(k, everyJudge());
    }

    public int mark(int skater, int component, int judge) throws IndexOutOfBoundsException {
        wantSkater(skater);
        wantComponent(component);
        wantJudge(judge);
        return now.skatings[skater].votes[voteOfMark(component, judge)];
    }

    public int component(int skater, int component) throws IndexOutOfBoundsException {
        wantSkater(skater);
        wantComponent(component);
        return tallied(skater).shownOf(component, everyJudge());
    }

    public int total(int skater, int what) throws IndexOutOfBoundsException, NoSuchElementException {
        wantSkater(skater);
        Tally tally = tallied(skater);
        switch (what) {
            case 0: return tally.points;
            case 1: return tally.shown;
            case 2: return tally.facts[Rules.FALLS];
            case 3: return tally.deducted;
            case 4: return tally.sumTotal;
            default: throw new NoSuchElementException("a skater has no such what");
        }
    }

    public int rule(int skater, int r) throws IndexOutOfBoundsException, NoSuchElementException {
        wantSkater(skater);
        if (r < 0 || r >= now.rules.size) {
            throw new NoSuchElementException("there is no such rule");
        }
        return now.rules.amount(r, tallied(skater).facts);
    }

    public int rank(int skater) throws IndexOutOfBoundsException {
        wantSkater(skater);
        standings.weigh(now, TIME_MOST);
        return standings.rankOf(skater);
    }

    public int ranked(int k) {
        standings.weigh(now, TIME_MOST);
        return standings.skaterAt(k);
    }

    // ---- acts

    public int tell(int skater, int k, int judge, int grade) throws IndexOutOfBoundsException, IllegalArgumentException {
        wantAttempt(skater, k);
        wantJudge(judge);
        if (grade < GRADE_LEAST || grade > GRADE_MOST) {
            throw new IllegalArgumentException("that is no grade");
        }
        return tellVote(skater, voteOfGrade(k, judge), grade);
    }

    public int show(int skater, int component, int judge, int mark) throws IndexOutOfBoundsException, IllegalArgumentException {
        wantSkater(skater);
        wantComponent(component);
        wantJudge(judge);
        if (mark < 0 || mark > MARK_MOST) {
            throw new IllegalArgumentException("that is no mark");
        }
        return tellVote(skater, voteOfMark(component, judge), mark);
    }

    public boolean call(int skater, int k, int call, boolean is) throws IndexOutOfBoundsException, IllegalArgumentException {
        wantAttempt(skater, k);
        if (call < 0 || call >= CALLS) {
            throw new IllegalArgumentException("that is no call");
        }
        int[] calls = now.skatings[skater].calls;
        int was = calls[k];
        int bit = 1 << call;
        acts.keep(Acts.CALL, skater, k, was);
        calls[k] = is ? was | bit : was & ~bit;
        return (was & bit) != 0;
    }

    public int base(int element, int base) throws IndexOutOfBoundsException, IllegalArgumentException {
        wantElement(element);
        if (base < 0 || base > BASE_MOST) {
            throw new IllegalArgumentException("that is no base");
        }
        int was = now.bases[element];
        acts.keep(Acts.BASE, 0, element, was);
        now.bases[element] = base;
        return was;
    }

    public int set(int what, int v) throws NoSuchElementException, IllegalArgumentException {
        if (what < 0 || what >= SETTINGS) {
            throw new NoSuchElementException("there is no such setting");
        }
        if (v < SETTING_LEAST[what] || v > SETTING_MOST[what]) {
            throw new IllegalArgumentException("the setting is out of its bounds");
        }
        int was = now.settings[what];
        acts.keep(Acts.SETTING, 0, what, was);
        now.settings[what] = v;
        return was;
    }

    public int scratch(int skater, int k) throws IndexOutOfBoundsException {
        wantAttempt(skater, k);
        Skating skating = now.skatings[skater];
        acts.keep(Acts.SCRATCH, skater, 0, skating.scratched);
        skating.scratched |= 1 << k;
        return skating.left();
    }

    public int undo() {
        return acts.takeBack(now) ? acts.size : NONE;
    }

    // ---- judges

    public int bias(int judge) throws IndexOutOfBoundsException {
        wantJudge(judge);
        standings.weigh(now, TIME_MOST);
        return standings.leaning(judge);
    }

    public int odd() {
        standings.weigh(now, TIME_MOST);
        return standings.farthestLeaning();
    }

    public int without(int skater, int judge) throws IndexOutOfBoundsException, IllegalStateException {
        wantSkater(skater);
        wantJudge(judge);
        wantOtherJudge();
        return totalBy(skater, everyJudge() & ~(1 << judge));
    }

    public int sways(int judge) throws IndexOutOfBoundsException, IllegalStateException {
        wantJudge(judge);
        wantOtherJudge();
        standings.weigh(now, TIME_MOST);
        return standings.turnedPairs(everyJudge() & ~(1 << judge));
    }

    public int alone(int skater, int judge) throws IndexOutOfBoundsException {
        wantSkater(skater);
        wantJudge(judge);
        return totalBy(skater, 1 << judge);
    }

    public int place(int skater, int judge) throws IndexOutOfBoundsException {
        wantSkater(skater);
        wantJudge(judge);
        standings.weigh(now, TIME_MOST);
        standings.judgeBy(1 << judge);
        return standings.rankOf(skater);
    }

    public int majority(int skater) throws IndexOutOfBoundsException {
        wantSkater(skater);
        standings.weigh(now, TIME_MOST);
        standings.findMajorities();
        return standings.majorities[skater];
    }

    public int major(int k) {
        standings.weigh(now, TIME_MOST);
        standings.findMajorities();
        return standings.skaterByMajorities(k);
    }

    public int panel(int seed, int n) throws IllegalArgumentException {
        wantPanelSize(n);
        int x = seed;
        int panel = 0;
        for (int free = now.judges; free > now.judges - n && free > 0; free--) {
            x = 1103515245 * x + 12345;
            panel |= 1 << judgeOutside(panel, (x >>> 16 & 0x7fff) % free);
        }
        return panel;
    }

    public int by(int skater, int panel) throws IndexOutOfBoundsException, IllegalArgumentException {
        wantSkater(skater);
        if (panel < 1 || panel > everyJudge()) {
            throw new IllegalArgumentException("that is no panel");
        }
        return totalBy(skater, panel);
    }

    public int firsts(int skater, int n) throws IndexOutOfBoundsException, IllegalArgumentException {
        wantSkater(skater);
        wantPanelSize(n);
        standings.weigh(now, TIME_MOST);
        int firsts = 0;
        for (int panel = 1; panel <= everyJudge(); panel++) {
            if (Integer.bitCount(panel) == n && standings.leadsBy(skater, panel)) {
                firsts++;
            }
        }
        return firsts;
    }

    // ---- what could be

    public int needed(int skater, int other) throws IndexOutOfBoundsException, IllegalArgumentException {
        wantSkater(skater);
        wantSkater(other);
        if (skater == other) {
            throw new IllegalArgumentException("they are one");
        }
        int last = now.skatings[skater].last();
        if (last == NONE) {
            return NO_GRADE;
        }
        standings.weigh(now, TIME_MOST);
        return standings.leastGradeAhead(skater, other, last);
    }

    public int raise(int skater, int k, int judge) throws IndexOutOfBoundsException, IllegalStateException {
        wantAttempt(skater, k);
        wantJudge(judge);
        int[] votes = now.skatings[skater].votes;
        int vote = voteOfGrade(k, judge);
        if (votes[vote] >= GRADE_MOST) {
            throw new IllegalStateException("no grade is greater");
        }
        int before = totalBy(skater, everyJudge());
        votes[vote]++;
        int after = totalBy(skater, everyJudge());
        votes[vote]--;
        return after - before;
    }

    public int prime(int skater, int n) throws IndexOutOfBoundsException, IllegalArgumentException {
        wantSkater(skater);
        if (n < 0 || n > ATTEMPTS_MOST) {
            throw new IllegalArgumentException("that is no number of attempts");
        }
        return tallied(skater).bestLate(n);
    }

    public int led(int time) throws IllegalArgumentException {
        if (time < 0 || time > TIME_MOST) {
            throw new IllegalArgumentException("that is no time");
        }
        standings.weigh(now, time);
        return standings.skaterAt(0);
    }

    public int doubt(int skater) throws IndexOutOfBoundsException {
        wantSkater(skater);
        return now.skatings[skater].widest(now.judges);
    }

    public int clean(int skater) throws IndexOutOfBoundsException {
        wantSkater(skater);
        Tally tally = standings.tallies[skater];
        tally.weigh(now, skater, TIME_MOST, 0);
        return tally.sumTotal;
    }

    public int write(int skater) throws IndexOutOfBoundsException {
        wantSkater(skater);
        protocol.putSkater(now, skater, tallied(skater));
        return protocol.size;
    }

    public int octet(int k) {
        return k >= 0 && k < protocol.size ? protocol.octets[k] : NONE;
    }

    public int count(int what) {
        switch (what) {
            case 0: return now.elementNames.size;
            case 1: return now.skaterNames.size;
            case 2: return now.judges;
            case 10: return now.rules.size;
            case 11: return acts.size;
            case 12: return protocol.size;
            default: break;
        }
        if (what >= 3 && what < 3 + SETTINGS) {
            return now.settings[what - 3];
        }
        if (what >= 20 && what < 20 + now.skaterNames.size) {
            return now.skatings[what - 20].tries;
        }
        return NONE;
    }

    // ---- what there must be

    private void wantSkater(int skater) {
        if (skater < 0 || skater >= now.skaterNames.size) {
            throw new IndexOutOfBoundsException("there is no such skater");
        }
    }

    private void wantElement(int element) {
        if (element < 0 || element >= now.elementNames.size) {
            throw new IndexOutOfBoundsException("there is no such element");
        }
    }

    private void wantAttempt(int skater, int k) {
        wantSkater(skater);
        if (!now.skatings[skater].has(k)) {
            throw new IndexOutOfBoundsException("there is no such attempt");
        }
    }

    private void wantJudge(int judge) {
        if (judge < 0 || judge >= now.judges) {
            throw new IndexOutOfBoundsException("there is no such judge");
        }
    }

    private void wantComponent(int component) {
        if (component < 0 || component >= COMPONENTS) {
            throw new IndexOutOfBoundsException("there is no such component");
        }
    }

    private void wantOtherJudge() {
        if (now.judges < 2) {
            throw new IllegalStateException("there is no other judge");
        }
    }

    private void wantPanelSize(int n) {
        if (n < 1 || n > now.judges) {
            throw new IllegalArgumentException("there is no panel of so many");
        }
    }

    // ---- steps of the calls

    private void tapeNumber(int number) {
        for (int shift = 24; shift >= 0 && taped < tape.length; shift -= 8) {
            tape[taped] = number >>> shift & 255;
            taped++;
        }
    }

    private static int voteOfGrade(int k, int judge) {
        return k * JUDGES_MOST + judge;
    }

    private static int voteOfMark(int component, int judge) {
        return (ATTEMPTS_MOST + component) * JUDGES_MOST + judge;
    }

    private int tellVote(int skater, int vote, int v) {
        int[] votes = now.skatings[skater].votes;
        int was = votes[vote];
        acts.keep(Acts.VOTE, skater, vote, was);
        votes[vote] = v;
        return was;
    }

    private int everyJudge() {
        return now.everyJudge();
    }

    private Tally tallied(int skater) {
        Tally tally = standings.tallies[skater];
        tally.weigh(now, skater, TIME_MOST, ALL_CALLS);
        return tally;
    }

    private int totalBy(int skater, int panel) {
        Tally tally = tallied(skater);
        tally.judgeBy(panel);
        return tally.sumTotal;
    }

    private int judgeOutside(int panel, int among) {
        int ahead = 0;
        for (int judge = 0; judge < now.judges; judge++) {
            if ((panel >> judge & 1) == 0) {
                if (ahead == among) {
                    return judge;
                }
                ahead++;
            }
        }
        return 0;
    }

    /** Names of one sort, numbered as they come. */
    private static final class Names {
        private final int most;
        private final int[] letters;
        private final int[] lengths;
        private int size = 0;

        Names(int most) {
            this.most = most;
            letters = new int[most * LETTERS_MOST];
            lengths = new int[most];
        }

        void forget() {
            size = 0;
        }

        boolean isFull() {
            return size >= most;
        }

        void add(int[] text, int from, int length) {
            if (isFull() || length > LETTERS_MOST) {
                return;
            }
            System.arraycopy(text, from, letters, size * LETTERS_MOST, length);
            lengths[size] = length;
            size++;
        }

        int find(int[] text, int from, int length) {
            for (int i = 0; i < size; i++) {
                if (lengths[i] == length && isLike(i, text, from)) {
                    return i;
                }
            }
            return NONE;
        }

        private boolean isLike(int i, int[] text, int from) {
            for (int k = 0; k < lengths[i]; k++) {
                if (letters[i * LETTERS_MOST + k] != text[from + k]) {
                    return false;
                }
            }
            return true;
        }

        int letter(int i, int k) {
            return k >= 0 && k < lengths[i] ? letters[i * LETTERS_MOST + k] : NONE;
        }
    }

    /** What one skater tries and is told for it; an attempt that is scratched keeps its row. */
    private static final class Skating {
        private int tries = 0;
        private int scratched = 0;
        private int lasts = 0;
        private final int[] times = new int[ATTEMPTS_MOST];
        private final int[] joined = new int[ATTEMPTS_MOST];
        private final int[] elements = new int[ATTEMPTS_MOST * JOINED_MOST];
        private final int[] calls = new int[ATTEMPTS_MOST];
        // Grades of attempts and, behind them, marks of components: both are trimmed alike.
        private final int[] votes = new int[(ATTEMPTS_MOST + COMPONENTS) * JUDGES_MOST];

        void forget() {
            tries = 0;
            scratched = 0;
            lasts = 0;
            Arrays.fill(votes, 0);
        }

        boolean has(int k) {
            return k >= 0 && k < tries && (scratched >> k & 1) == 0;
        }

        int left() {
            return tries - Integer.bitCount(scratched);
        }

        int last() {
            for (int k = tries - 1; k >= 0; k--) {
                if (has(k)) {
                    return k;
                }
            }
            return NONE;
        }

        int elementAt(int k, int i) {
            return i < joined[k] ? elements[k * JOINED_MOST + i] : NONE;
        }

        int widest(int judges) {
            int widest = NONE;
            int most = NONE;
            for (int k = 0; k < tries; k++) {
                int span = has(k) ? spanOf(k, judges) : NONE;
                if (span > most) {
                    most = span;
                    widest = k;
                }
            }
            return widest;
        }

        private int spanOf(int k, int judges) {
            int least = GRADE_MOST;
            int most = GRADE_LEAST;
            for (int judge = 0; judge < judges; judge++) {
                int grade = votes[voteOfGrade(k, judge)];
                least = Math.min(least, grade);
                most = Math.max(most, grade);
            }
            return most - least;
        }
    }

    /** Rules of deductions, kept as codes in the order in which they are worked out. */
    private static final class Rules {
        static final int FALLS = 0;
        static final int TIME = 1;
        static final int TRIES = 2;
        static final int KINDS = 3;
        static final int LATES = 6;
        static final int STRUCK = 7;
        static final int UNDERS = 8;
        static final int EDGES = 9;
        static final int FACTS = 10;

        // A code from 0 on is a number of the text, one from FIRST_FACT on a fact, others are these.
        static final int FIRST_FACT = 10000;
        static final int PLUS = -1;
        static final int MINUS = -2;
        static final int TIMES = -3;
        static final int LESS = -4;
        static final int LIKE = -5;
        static final int MORE = -6;
        static final int AND = -7;
        static final int OR = -8;

        private static final int BOUND = 1000000;
        private static final int AMOUNT_MOST = 9999;
        // Five sums within one another hold two waiting numbers each, a test three more.
        private static final int STACK_MOST = 16;

        private int size = 0;
        private int used = 0;
        private final int[] codes = new int[TEXT_MOST];
        private final int[] sums = new int[RULES_MOST];
        private final int[] tests = new int[RULES_MOST];
        private final int[] ends = new int[RULES_MOST];
        private final int[] stack = new int[STACK_MOST];

        void forget() {
            size = 0;
            used = 0;
        }

        boolean isFull() {
            return size >= RULES_MOST;
        }

        void add(int code) {
            if (used < codes.length) {
                codes[used] = code;
                used++;
            }
        }

        void close(int sum, int test) {
            if (isFull()) {
                return;
            }
            sums[size] = sum;
            tests[size] = test;
            ends[size] = used;
            size++;
        }

        int amount(int r, int[] facts) {
            boolean tested = ends[r] > tests[r];
            if (tested && workOut(tests[r], ends[r], facts) == 0) {
                return 0;
            }
            return Math.max(0, Math.min(AMOUNT_MOST, workOut(sums[r], tests[r], facts)));
        }

        private int workOut(int from, int to, int[] facts) {
            int high = 0;
            for (int i = from; i < to; i++) {
                int code = codes[i];
                if (code >= 0) {
                    if (high >= STACK_MOST) {
                        return 0;
                    }
                    stack[high] = valueOf(code, facts);
                    high++;
                } else {
                    if (high < 2) {
                        return 0;
                    }
                    high--;
                    stack[high - 1] = joined(code, stack[high - 1], stack[high]);
                }
            }
            return stack[0];
        }

        private static int valueOf(int code, int[] facts) {
            int fact = code - FIRST_FACT;
            return fact >= 0 && fact < facts.length ? facts[fact] : code;
        }

        private static int joined(int code, long a, long b) {
            switch (code) {
                case LESS: return a < b ? 1 : 0;
                case LIKE: return a == b ? 1 : 0;
                case MORE: return a > b ? 1 : 0;
                case AND: return a != 0 && b != 0 ? 1 : 0;
                case OR: return a != 0 || b != 0 ? 1 : 0;
                default: break;
            }
            long v = code == PLUS ? a + b : code == MINUS ? a - b : a * b;
            return (int) Math.max(-BOUND, Math.min(BOUND, v));
        }
    }

    /** All that a text tells, as acts have changed it since. */
    private static final class Event {
        private int judges = JUDGES_FIRST;
        private final int[] settings = new int[SETTINGS];
        private final Names elementNames = new Names(ELEMENTS_MOST);
        private final int[] bases = new int[ELEMENTS_MOST];
        private final int[] kinds = new int[ELEMENTS_MOST];
        private final Rules rules = new Rules();
        private final Names skaterNames = new Names(SKATERS_MOST);
        private final Skating[] skatings = new Skating[SKATERS_MOST];

        Event() {
            System.arraycopy(SETTING_FIRST, 0, settings, 0, SETTINGS);
            for (int i = 0; i < SKATERS_MOST; i++) {
                skatings[i] = new Skating();
            }
        }

        int everyJudge() {
            return (1 << judges) - 1;
        }

        void forget() {
            judges = JUDGES_FIRST;
            System.arraycopy(SETTING_FIRST, 0, settings, 0, SETTINGS);
            elementNames.forget();
            rules.forget();
            skaterNames.forget();
            for (int i = 0; i < SKATERS_MOST; i++) {
                skatings[i].forget();
            }
        }
    }

    /** Reads a text, token by token; what it refuses, it refuses at the token where it stands. */
    private static final class Reader {
        private static final int END = -1;
        private static final int WORD = 'a';
        private static final int NUMBER = '0';
        private static final int OPEN_MOST = 4;

        // Numbered from 0 on; the settings come as they are numbered.
        private static final String LINES =
                "element judges deduct skater do show lasts drop half late repeat factor ";
        private static final int SETTING_LINES = 7;
        private static final String KINDS = "jump spin steps ";
        private static final String CALL_WORDS = "under edge fall ";
        private static final String FACT_WORDS =
                "falls time tries jumps spins steps late struck unders edges ";
        private static final String IF = "if ";
        private static final String JOINS = "and or ";

        private final int[] text;
        private Event event;
        private int length = 0;
        private int kind = END;
        private int from = 0;
        private int size = 0;
        private int value = 0;
        private int wrong = NONE;
        private boolean voted = false;

        Reader(int[] text, Event event) {
            this.text = text;
            this.event = event;
        }

        int faultOf(int bytes, Event fresh) {
            start(bytes, fresh);
            boolean right = true;
            for (int i = 0; i <= TEXT_MOST && right && kind != END; i++) {
                int word = among(LINES);
                switch (word) {
                    case 0: right = elementLine(); break;
                    case 1: right = judgesLine(); break;
                    case 2: right = deductLine(); break;
                    case 3: right = skaterLine(); break;
                    case 4: right = doLine(); break;
                    case 5: right = showLine(); break;
                    case 6: right = lastsLine(); break;
                    case NONE: right = refuse(); break;
                    default: right = settingLine(word - SETTING_LINES); break;
                }
                right = right && sign(';');
            }
            return wrong;
        }

        private void start(int bytes, Event fresh) {
            event = fresh;
            event.forget();
            length = Math.min(bytes, text.length);
            from = 0;
            size = 0;
            wrong = NONE;
            voted = false;
            advance();
        }

        private void advance() {
            int i = from + size;
            while (i < length && (text[i] == 9 || text[i] == 10 || text[i] == 32)) {
                i++;
            }
            from = i;
            kind = i < length ? text[i] : END;
            if (kind >= 'a' && kind <= 'z') {
                kind = WORD;
                while (i < length && text[i] >= 'a' && text[i] <= 'z') {
                    i++;
                }
            } else if (kind >= '0' && kind <= '9') {
                kind = NUMBER;
                while (i < length && text[i] >= '0' && text[i] <= '9') {
                    i++;
                }
            } else if (kind != END) {
                i++;
            }
            size = i - from;
        }

        private boolean refuse() {
            wrong = from;
            return false;
        }

        private boolean sign(int octet) {
            if (kind != octet) {
                return refuse();
            }
            advance();
            return true;
        }

        /** The number among some words, with a blank behind each, of the one that stands here. */
        private int among(String words) {
            int number = 0;
            int like = 0;
            for (int i = 0; i < words.length() && kind == WORD; i++) {
                char letter = words.charAt(i);
                if (letter == ' ') {
                    if (like == size) {
                        return number;
                    }
                    number++;
                    like = 0;
                } else if (like != NONE && like < size && text[from + like] == letter) {
                    like++;
                } else {
                    like = NONE;
                }
            }
            return NONE;
        }

        private boolean number(int least, int most) {
            if (kind != NUMBER || size > DIGITS_MOST) {
                return refuse();
            }
            value = 0;
            for (int i = 0; i < size; i++) {
                value = 10 * value + text[from + i] - '0';
            }
            if (value < least || value > most) {
                return refuse();
            }
            advance();
            return true;
        }

        private boolean newName(Names names) {
            if (kind != WORD || size > LETTERS_MOST || names.find(text, from, size) != NONE) {
                return refuse();
            }
            names.add(text, from, size);
            advance();
            return true;
        }

        private boolean elementLine() {
            int element = event.elementNames.size;
            if (event.elementNames.isFull()) {
                return refuse();
            }
            advance();
            if (!newName(event.elementNames)) {
                return false;
            }
            int sort = among(KINDS);
            if (sort == NONE) {
                return refuse();
            }
            advance();
            if (!number(0, BASE_MOST)) {
                return false;
            }
            event.kinds[element] = sort;
            event.bases[element] = value;
            return true;
        }

        private boolean judgesLine() {
            if (voted) {
                return refuse();
            }
            advance();
            if (!number(1, JUDGES_MOST)) {
                return false;
            }
            event.judges = value;
            return true;
        }

        private boolean settingLine(int what) {
            int many = what == FACTOR ? COMPONENTS : 1;
            advance();
            for (int i = what; i < what + many && i < SETTINGS; i++) {
                if (!number(SETTING_LEAST[i], SETTING_MOST[i])) {
                    return false;
                }
                event.settings[i] = value;
            }
            return true;
        }

        private boolean skaterLine() {
            if (event.skaterNames.isFull()) {
                return refuse();
            }
            advance();
            return newName(event.skaterNames);
        }

        private boolean lastsLine() {
            int skater = event.skaterNames.size - 1;
            if (skater < 0) {
                return refuse();
            }
            advance();
            if (!number(0, TIME_MOST)) {
                return false;
            }
            event.skatings[skater].lasts = value;
            return true;
        }

        private boolean showLine() {
            int skater = event.skaterNames.size - 1;
            if (skater < 0) {
                return refuse();
            }
            voted = true;
            advance();
            for (int i = 0; i < COMPONENTS; i++) {
                if (!votes(event.skatings[skater], ATTEMPTS_MOST + i, 0)) {
                    return false;
                }
            }
            return true;
        }

        private boolean doLine() {
            int skater = event.skaterNames.size - 1;
            if (skater < 0 || event.skatings[skater].tries >= ATTEMPTS_MOST) {
                return refuse();
            }
            voted = true;
            Skating skating = event.skatings[skater];
            int k = skating.tries;
            advance();
            if (!elements(skating, k) || !number(k > 0 ? skating.times[k - 1] : 0, TIME_MOST)) {
                return false;
            }
            skating.times[k] = value;
            if (!votes(skating, k, GRADE_LEAST) || !calls(skating, k)) {
                return false;
            }
            skating.tries++;
            return true;
        }

        private boolean elements(Skating skating, int k) {
            for (int i = 0; i < JOINED_MOST; i++) {
                int element = kind == WORD ? event.elementNames.find(text, from, size) : NONE;
                if (element == NONE || i > 0 && event.kinds[element] != JUMP) {
                    return refuse();
                }
                skating.elements[k * JOINED_MOST + i] = element;
                skating.joined[k] = i + 1;
                advance();
                if (kind != '+') {
                    return true;
                }
                if (event.kinds[element] != JUMP || i + 1 >= JOINED_MOST) {
                    return refuse();
                }
                advance();
            }
            return refuse();
        }

        private boolean votes(Skating skating, int row, int least) {
            if (kind != WORD || size != event.judges) {
                return refuse();
            }
            for (int i = 0; i < size && i < JUDGES_MOST; i++) {
                int letter = text[from + i] - 'a';
                if (letter > MARK_MOST) {
                    return refuse();
                }
                skating.votes[row * JUDGES_MOST + i] = least + letter;
            }
            advance();
            return true;
        }

        private boolean calls(Skating skating, int k) {
            int calls = 0;
            for (int i = 0; i <= CALLS && kind == WORD; i++) {
                int call = among(CALL_WORDS);
                if (call == NONE || (calls >> call & 1) != 0) {
                    return refuse();
                }
                calls |= 1 << call;
                advance();
            }
            skating.calls[k] = calls;
            return true;
        }

        private boolean deductLine() {
            Rules rules = event.rules;
            if (rules.isFull()) {
                return refuse();
            }
            int first = rules.used;
            advance();
            if (!sum(0)) {
                return false;
            }
            int firstOfTest = rules.used;
            if (among(IF) != NONE) {
                advance();
                if (!test()) {
                    return false;
                }
            }
            rules.close(first, firstOfTest);
            return true;
        }

        private boolean test() {
            Rules rules = event.rules;
            boolean and = false;
            boolean or = false;
            for (int i = 0; i <= TEXT_MOST; i++) {
                if (!sum(0)) {
                    return false;
                }
                int relation = relation();
                if (relation == NONE) {
                    return refuse();
                }
                advance();
                if (!sum(0)) {
                    return false;
                }
                rules.add(relation);
                if (and) {
                    rules.add(Rules.AND);
                }
                int join = among(JOINS);
                and = join == 0;
                if (or && !and) {
                    // All that "and" joins behind the "or" has come.
                    rules.add(Rules.OR);
                }
                if (join == NONE) {
                    return true;
                }
                or = or || !and;
                advance();
            }
            return refuse();
        }

        private int relation() {
            switch (kind) {
                case '<': return Rules.LESS;
                case '=': return Rules.LIKE;
                case '>': return Rules.MORE;
                default: return NONE;
            }
        }

        private boolean sum(int open) {
            boolean times = false;
            int waiting = 0;
            for (int i = 0; i <= TEXT_MOST; i++) {
                if (!atom(open)) {
                    return false;
                }
                if (times) {
                    event.rules.add(Rules.TIMES);
                }
                times = kind == '*';
                if (!times && waiting != 0) {
                    event.rules.add(waiting);
                }
                if (!times && kind != '+' && kind != '-') {
                    return true;
                }
                waiting = times ? waiting : kind == '+' ? Rules.PLUS : Rules.MINUS;
                advance();
            }
            return refuse();
        }

        private boolean atom(int open) {
            if (kind == '(') {
                if (open >= OPEN_MOST) {
                    return refuse();
                }
                advance();
                return sum(open + 1) && sign(')');
            }
            int fact = among(FACT_WORDS);
            if (fact != NONE) {
                event.rules.add(Rules.FIRST_FACT + fact);
                advance();
                return true;
            }
            if (!number(0, Rules.FIRST_FACT - 1)) {
                return false;
            }
            event.rules.add(value);
            return true;
        }
    }

    /** What a skater comes to: weighed first as no judge matters to it, then judged by a panel. */
    private static final class Tally {
        private Event event;
        private Skating skating;
        private int tried = 0;
        private int lates = 0;
        private int worths = 0;
        private int deducted = 0;
        private int points = 0;
        private int shown = 0;
        private int sumTotal = 0;
        private final int[] struck = new int[ATTEMPTS_MOST];
        private final int[] plain = new int[ATTEMPTS_MOST];
        private final int[] greatest = new int[ATTEMPTS_MOST];
        private final int[] facts = new int[Rules.FACTS];
        private final int[] stood = new int[ELEMENTS_MOST];
        // Judges of each row by what they told, the least first: a panel only skips the others.
        private final int[] order = new int[(ATTEMPTS_MOST + COMPONENTS) * JUDGES_MOST];

        Tally(Event event, int skater) {
            this.event = event;
            this.skating = event.skatings[skater];
        }

        void weigh(Event told, int skater, int until, int heeded) {
            event = told;
            skating = told.skatings[skater];
            tried = 0;
            lates = 0;
            worths = 0;
            Arrays.fill(stood, 0);
            Arrays.fill(facts, 0);
            facts[Rules.TIME] = skating.lasts;
            for (int k = 0; k < skating.tries; k++) {
                if (skating.has(k) && skating.times[k] <= until) {
                    tried |= 1 << k;
                    weighAttempt(k, skating.calls[k] & heeded);
                    sortJudges(k);
                }
            }
            for (int i = 0; i < COMPONENTS; i++) {
                sortJudges(ATTEMPTS_MOST + i);
            }
            deducted = 0;
            for (int r = 0; r < event.rules.size; r++) {
                deducted += event.rules.amount(r, facts);
            }
            judgeBy(event.everyJudge());
        }

        private void weighAttempt(int k, int calls) {
            int bases = unstruckBases(k);
            if ((calls & UNDER) != 0) {
                bases = bases * 8 / 10;
                facts[Rules.UNDERS]++;
            }
            if ((calls & EDGE) != 0) {
                bases = bases * 7 / 10;
                facts[Rules.EDGES]++;
            }
            if ((calls & FALL) != 0) {
                facts[Rules.FALLS]++;
            }
            plain[k] = bases;
            if (beginsWithJump(k) && skating.times[k] >= event.settings[HALF]) {
                lates |= 1 << k;
                facts[Rules.LATES]++;
            }
            facts[Rules.TRIES]++;
            worths += worthOf(k);
        }

        private int unstruckBases(int k) {
            int bases = 0;
            greatest[k] = 0;
            struck[k] = 0;
            for (int i = 0; i < skating.joined[k]; i++) {
                int element = skating.elements[k * JOINED_MOST + i];
                int sort = event.kinds[element];
                int most = sort == JUMP ? event.settings[REPEAT] : 1;
                facts[Rules.KINDS + sort]++;
                if (stood[element] >= most) {
                    struck[k] |= 1 << i;
                    facts[Rules.STRUCK]++;
                } else {
                    bases += event.bases[element];
                    greatest[k] = Math.max(greatest[k], event.bases[element]);
                }
                stood[element]++;
            }
            return bases;
        }

        private boolean beginsWithJump(int k) {
            return event.kinds[skating.elements[k * JOINED_MOST]] == JUMP;
        }

        private void sortJudges(int row) {
            int first = row * JUDGES_MOST;
            for (int judge = 0; judge < event.judges; judge++) {
                int at = first + judge;
                int vote = skating.votes[at];
                while (at > first && skating.votes[first + order[at - 1]] > vote) {
                    order[at] = order[at - 1];
                    at--;
                }
                order[at] = judge;
            }
        }

        void judgeBy(int panel) {
            points = worths;
            for (int k = 0; k < skating.tries; k++) {
                if ((tried >> k & 1) != 0) {
                    points += gainOf(k, panel);
                }
            }
            shown = 0;
            for (int i = 0; i < COMPONENTS; i++) {
                shown += shownOf(i, panel);
            }
            sumUp();
        }

        void regrade(int k, int oldMean, int mean) {
            points += gainBy(k, mean) - gainBy(k, oldMean);
            sumUp();
        }

        private void sumUp() {
            sumTotal = Math.max(0, points + shown - 100 * facts[Rules.FALLS] - deducted);
        }

        boolean isLate(int k) {
            return (lates >> k & 1) != 0;
        }

        private int bonusOf(int k) {
            return plain[k] * event.settings[LATE] / 100;
        }

        int worthOf(int k) {
            return isLate(k) ? plain[k] + bonusOf(k) : plain[k];
        }

        private int gainBy(int k, int mean) {
            return Math.floorDiv(greatest[k] * mean, 1000);
        }

        int gainOf(int k, int panel) {
            return gainBy(k, trimmed(k, panel));
        }

        int pointsOf(int k, int panel) {
            return worthOf(k) + gainOf(k, panel);
        }

        int shownOf(int component, int panel) {
            return trimmed(ATTEMPTS_MOST + component, panel) * event.settings[FACTOR + component] / 100;
        }

        int trimmed(int row, int panel) {
            int many = Integer.bitCount(panel);
            int drop = Math.min(event.settings[DROP], (many - 1) / 2);
            int left = many - 2 * drop;
            if (left < 1) {
                return 0;
            }
            int first = row * JUDGES_MOST;
            int ahead = 0;
            int together = 0;
            for (int i = first; i < first + event.judges; i++) {
                int judge = order[i];
                if ((panel >> judge & 1) != 0) {
                    if (ahead >= drop && ahead < many - drop) {
                        together += skating.votes[first + judge];
                    }
                    ahead++;
                }
            }
            return Math.floorDiv(100 * together, left);
        }

        int bestLate(int n) {
            int best = 0;
            for (int i = 0; i < n; i++) {
                int next = greatestBonus(tried & ~best);
                if (next == NONE) {
                    return best;
                }
                best |= 1 << next;
            }
            return best;
        }

        /** Of several the first one, as the least bits are wanted. */
        private int greatestBonus(int among) {
            int found = NONE;
            for (int k = 0; k < skating.tries; k++) {
                boolean could = (among >> k & 1) != 0 && beginsWithJump(k);
                if (could && (found == NONE || bonusOf(k) > bonusOf(found))) {
                    found = k;
                }
            }
            return found;
        }
    }

    /** All skaters of an event, one against the other. */
    private static final class Standings {
        private Event event;
        private final Tally[] tallies = new Tally[SKATERS_MOST];
        private final int[] ranks = new int[SKATERS_MOST];
        private final int[] places = new int[SKATERS_MOST * JUDGES_MOST];
        private final int[] majorities = new int[SKATERS_MOST];
        private final int[] backers = new int[SKATERS_MOST];
        private final int[] placeSums = new int[SKATERS_MOST];

        Standings(Event event) {
            this.event = event;
            for (int i = 0; i < SKATERS_MOST; i++) {
                tallies[i] = new Tally(event, i);
            }
        }

        private int skaters() {
            return event.skaterNames.size;
        }

        void weigh(Event told, int until) {
            event = told;
            for (int i = 0; i < skaters(); i++) {
                tallies[i].weigh(told, i, until, ALL_CALLS);
            }
        }

        void judgeBy(int panel) {
            for (int i = 0; i < skaters(); i++) {
                tallies[i].judgeBy(panel);
            }
        }

        private boolean isAhead(int a, int b) {
            if (tallies[a].sumTotal != tallies[b].sumTotal) {
                return tallies[a].sumTotal > tallies[b].sumTotal;
            }
            if (tallies[a].points != tallies[b].points) {
                return tallies[a].points > tallies[b].points;
            }
            return a < b;
        }

        int rankOf(int skater) {
            int ahead = 0;
            for (int i = 0; i < skaters(); i++) {
                if (i != skater && isAhead(i, skater)) {
                    ahead++;
                }
            }
            return ahead;
        }

        int skaterAt(int rank) {
            for (int i = 0; i < skaters(); i++) {
                if (rankOf(i) == rank) {
                    return i;
                }
            }
            return NONE;
        }

        boolean leadsBy(int skater, int panel) {
            tallies[skater].judgeBy(panel);
            for (int i = 0; i < skaters(); i++) {
                if (i != skater) {
                    tallies[i].judgeBy(panel);
                    if (isAhead(i, skater)) {
                        return false;
                    }
                }
            }
            return true;
        }

        int leaning(int judge) {
            int every = event.everyJudge();
            int leaning = 0;
            for (int i = 0; i < skaters(); i++) {
                Skating skating = event.skatings[i];
                for (int k = 0; k < skating.tries; k++) {
                    if (skating.has(k)) {
                        leaning += 100 * skating.votes[voteOfGrade(k, judge)] - tallies[i].trimmed(k, every);
                    }
                }
            }
            return leaning;
        }

        int farthestLeaning() {
            int farthest = 0;
            int most = 0;
            for (int judge = 0; judge < event.judges; judge++) {
                int leaning = Math.abs(leaning(judge));
                if (leaning > most) {
                    most = leaning;
                    farthest = judge;
                }
            }
            return farthest;
        }

        int turnedPairs(int panel) {
            for (int i = 0; i < skaters(); i++) {
                ranks[i] = rankOf(i);
            }
            judgeBy(panel);
            int turned = 0;
            for (int a = 0; a < skaters(); a++) {
                for (int b = a + 1; b < skaters(); b++) {
                    if (ranks[a] < ranks[b] != isAhead(a, b)) {
                        turned++;
                    }
                }
            }
            return turned;
        }

        void findMajorities() {
            for (int judge = 0; judge < event.judges; judge++) {
                judgeBy(1 << judge);
                for (int i = 0; i < skaters(); i++) {
                    places[i * JUDGES_MOST + judge] = rankOf(i);
                }
            }
            for (int i = 0; i < skaters(); i++) {
                findMajority(i);
            }
        }

        private void findMajority(int skater) {
            placeSums[skater] = 0;
            for (int judge = 0; judge < event.judges; judge++) {
                placeSums[skater] += places[skater * JUDGES_MOST + judge];
            }
            for (int place = 0; place < skaters(); place++) {
                int backing = backersFor(skater, place);
                if (2 * backing > event.judges) {
                    majorities[skater] = place;
                    backers[skater] = backing;
                    return;
                }
            }
        }

        private int backersFor(int skater, int place) {
            int backing = 0;
            for (int judge = 0; judge < event.judges; judge++) {
                if (places[skater * JUDGES_MOST + judge] <= place) {
                    backing++;
                }
            }
            return backing;
        }

        private boolean isAheadByMajorities(int a, int b) {
            if (majorities[a] != majorities[b]) {
                return majorities[a] < majorities[b];
            }
            if (backers[a] != backers[b]) {
                return backers[a] > backers[b];
            }
            if (placeSums[a] != placeSums[b]) {
                return placeSums[a] < placeSums[b];
            }
            return a < b;
        }

        int skaterByMajorities(int k) {
            for (int i = 0; i < skaters(); i++) {
                int ahead = 0;
                for (int other = 0; other < skaters(); other++) {
                    if (other != i && isAheadByMajorities(other, i)) {
                        ahead++;
                    }
                }
                if (ahead == k) {
                    return i;
                }
            }
            return NONE;
        }

        int leastGradeAhead(int skater, int other, int k) {
            int mean = tallies[skater].trimmed(k, event.everyJudge());
            for (int grade = GRADE_LEAST; grade <= GRADE_MOST; grade++) {
                tallies[skater].regrade(k, mean, 100 * grade);
                if (isAhead(skater, other)) {
                    return grade;
                }
                mean = 100 * grade;
            }
            return NO_GRADE;
        }
    }

    /** What the latest acts have changed, and how it was ahead of them. */
    private static final class Acts {
        static final int VOTE = 0;
        static final int CALL = 1;
        static final int BASE = 2;
        static final int SETTING = 3;
        static final int SCRATCH = 4;

        private int size = 0;
        private int next = 0;
        private final int[] sorts = new int[ACTS_MOST];
        private final int[] skaters = new int[ACTS_MOST];
        private final int[] wheres = new int[ACTS_MOST];
        private final int[] befores = new int[ACTS_MOST];

        void forget() {
            size = 0;
        }

        void keep(int sort, int skater, int where, int before) {
            sorts[next] = sort;
            skaters[next] = skater;
            wheres[next] = where;
            befores[next] = before;
            next = (next + 1) % ACTS_MOST;
            size = Math.min(size + 1, ACTS_MOST);
        }

        boolean takeBack(Event event) {
            if (size == 0) {
                return false;
            }
            size--;
            next = (next + ACTS_MOST - 1) % ACTS_MOST;
            Skating skating = event.skatings[skaters[next]];
            int where = wheres[next];
            int before = befores[next];
            switch (sorts[next]) {
                case VOTE: skating.votes[where] = before; break;
                case CALL: skating.calls[where] = before; break;
                case BASE: event.bases[where] = before; break;
                case SETTING: event.settings[where] = before; break;
                default: skating.scratched = before; break;
            }
            return true;
        }
    }

    /** What was written latest. */
    private static final class Protocol {
        // A head of 6 + 1 + 8 bytes and twelve lines of 1 + 20 + 3 + 1 + 8 fit.
        private final int[] octets = new int[420];
        private int size = 0;

        void putSkater(Event event, int skater, Tally tally) {
            Skating skating = event.skatings[skater];
            size = 0;
            putLetters(event.skaterNames, skater);
            put(' ');
            putHundredths(tally.sumTotal);
            for (int k = 0; k < skating.tries; k++) {
                if (skating.has(k)) {
                    putAttempt(event, skating, k, tally);
                }
            }
        }

        private void putAttempt(Event event, Skating skating, int k, Tally tally) {
            put(10);
            for (int i = 0; i < skating.joined[k]; i++) {
                if (i > 0) {
                    put('+');
                }
                putLetters(event.elementNames, skating.elements[k * JOINED_MOST + i]);
            }
            if ((skating.calls[k] & UNDER) != 0) {
                put('<');
            }
            if ((skating.calls[k] & EDGE) != 0) {
                put('!');
            }
            if (tally.isLate(k)) {
                put('x');
            }
            put(' ');
            putHundredths(tally.pointsOf(k, event.everyJudge()));
        }

        private void put(int octet) {
            if (size < octets.length) {
                octets[size] = octet;
                size++;
            }
        }

        private void putLetters(Names names, int i) {
            for (int k = 0; k < LETTERS_MOST && names.letter(i, k) != NONE; k++) {
                put(names.letter(i, k));
            }
        }

        private void putHundredths(int value) {
            if (value < 0) {
                put('-');
            }
            int positive = Math.abs(value);
            boolean begun = false;
            for (int unit = 10000000; unit > 0; unit /= 10) {
                begun = begun || unit <= 100 || positive >= unit;
                if (begun) {
                    put('0' + positive / unit % 10);
                }
                if (unit == 100) {
                    put('.');
                }
            }
        }
    }
}
