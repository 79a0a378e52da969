import java.util.ArrayDeque;
import java.util.ArrayList;
import java.util.Collections;
import java.util.Deque;
import java.util.HashMap;
import java.util.List;
import java.util.Map;
import java.util.NoSuchElementException;

/**
 * The document written down a second time, in its plainest form and in another way than the class:
 * sorted lists, copies of all that is for what could be and for what is undone, all sets tried.
 */
final class Model {
    /** A text is wrong at a byte. */
    static final class Wrong extends RuntimeException {
        private static final long serialVersionUID = 1L;
        final int at;

        Wrong(int at) {
            this.at = at;
        }
    }

    interface Sum {
        long of(Map<String, Long> words);
    }

    interface Test {
        boolean holds(Map<String, Long> words);
    }

    static final class Rule {
        Sum sum;
        Test test = words -> true;
    }

    static final class Element {
        String name;
        int kind;
        int base;

        Element copy() {
            Element copy = new Element();
            copy.name = name;
            copy.kind = kind;
            copy.base = base;
            return copy;
        }
    }

    static final class Attempt {
        int number;
        int time;
        List<Integer> elements = new ArrayList<>();
        List<Integer> grades = new ArrayList<>();
        boolean[] calls = new boolean[3];

        Attempt copy() {
            Attempt copy = new Attempt();
            copy.number = number;
            copy.time = time;
            copy.elements = new ArrayList<>(elements);
            copy.grades = new ArrayList<>(grades);
            copy.calls = calls.clone();
            return copy;
        }
    }

    static final class Skater {
        String name;
        int told;
        int lasts;
        List<Attempt> attempts = new ArrayList<>();
        int[][] marks = new int[3][9];

        Skater copy() {
            Skater copy = new Skater();
            copy.name = name;
            copy.told = told;
            copy.lasts = lasts;
            for (Attempt attempt : attempts) {
                copy.attempts.add(attempt.copy());
            }
            for (int i = 0; i < 3; i++) {
                copy.marks[i] = marks[i].clone();
            }
            return copy;
        }
    }

    static final class State {
        int judges = 5;
        int[] settings = {1, 120, 10, 2, 100, 100, 100};
        List<Element> elements = new ArrayList<>();
        List<Rule> rules = new ArrayList<>();
        List<Skater> skaters = new ArrayList<>();

        State copy() {
            State copy = new State();
            copy.judges = judges;
            copy.settings = settings.clone();
            for (Element element : elements) {
                copy.elements.add(element.copy());
            }
            copy.rules = rules;
            for (Skater skater : skaters) {
                copy.skaters.add(skater.copy());
            }
            return copy;
        }
    }

    private static final int NONE = -1;
    private static final int[] LEAST = {0, 0, 0, 1, 0, 0, 0};
    private static final int[] MOST = {3, 600, 50, 3, 300, 300, 300};

    private State state = new State();
    private String tape = "";
    private int fault = NONE;
    private String written = "";
    private final Deque<State> before = new ArrayDeque<>();

    // ---- calls

    int feed(int... five) {
        if (tape.length() + 20 > 600) {
            return NONE;
        }
        StringBuilder more = new StringBuilder(tape);
        for (int number : five) {
            for (int i = 3; i >= 0; i--) {
                more.append((char) (number >> 8 * i & 255));
            }
        }
        tape = more.toString();
        return tape.length();
    }

    boolean end(int n) {
        if (n < 0 || n > tape.length()) {
            return false;
        }
        tape = tape.substring(0, n);
        return true;
    }

    int read() {
        String text = tape;
        tape = "";
        try {
            state = new ModelReader(text).read();
        } catch (Wrong e) {
            fault = e.at;
            throw new IllegalArgumentException();
        }
        fault = NONE;
        before.clear();
        return state.skaters.size();
    }

    int fault() {
        return fault;
    }

    int name(boolean skater, int i, int k) {
        String name = skater ? skater(i).name : element(i).name;
        return k >= 0 && k < name.length() ? name.charAt(k) : NONE;
    }

    int element(int element, int what) {
        Element it = element(element);
        if (what != 0 && what != 1) {
            throw new NoSuchElementException();
        }
        return what == 0 ? it.base : it.kind;
    }

    int attempt(int skater, int k, int what) {
        Attempt attempt = attempt(skater, k);
        List<Attempt> all = skater(skater).attempts;
        switch (what) {
            case 0: return attempt.time;
            case 1: return attempt.elements.size();
            case 2: case 3: case 4:
                return what - 2 < attempt.elements.size() ? attempt.elements.get(what - 2) : NONE;
            case 5: return (attempt.calls[0] ? 1 : 0) + (attempt.calls[1] ? 2 : 0) + (attempt.calls[2] ? 4 : 0);
            case 6: return late(state, attempt) ? 1 : 0;
            case 7: {
                int bits = 0;
                for (int i = 0; i < attempt.elements.size(); i++) {
                    bits += struck(state, all, attempt, i) ? 1 << i : 0;
                }
                return bits;
            }
            case 8: return worth(state, all, attempt, late(state, attempt));
            case 9: return gain(state, all, attempt, everyJudge());
            case 10: return worth(state, all, attempt, late(state, attempt)) + gain(state, all, attempt, everyJudge());
            default: throw new NoSuchElementException();
        }
    }

    int grade(int skater, int k, int judge) {
        Attempt attempt = attempt(skater, k);
        judge(judge);
        return attempt.grades.get(judge);
    }

    int mean(int skater, int k) {
        return trimmed(state, attempt(skater, k).grades, everyJudge());
    }

    int mark(int skater, int component, int judge) {
        Skater it = skater(skater);
        component(component);
        judge(judge);
        return it.marks[component][judge];
    }

    int component(int skater, int component) {
        Skater it = skater(skater);
        component(component);
        return shown(state, it, component, everyJudge());
    }

    int total(int skater, int what) {
        Skater it = skater(skater);
        switch (what) {
            case 0: return points(state, it, everyJudge());
            case 1: return shown(state, it, 0, everyJudge()) + shown(state, it, 1, everyJudge()) + shown(state, it, 2, everyJudge());
            case 2: return (int) (long) words(state, it).get("falls");
            case 3: return deducted(state, it);
            case 4: return total(state, it, everyJudge());
            default: throw new NoSuchElementException();
        }
    }

    int rule(int skater, int r) {
        Skater it = skater(skater);
        if (r < 0 || r >= state.rules.size()) {
            throw new NoSuchElementException();
        }
        return amount(state.rules.get(r), words(state, it));
    }

    int rank(int skater) {
        skater(skater);
        return standing(state, everyJudge()).indexOf(skater);
    }

    int ranked(int k) {
        return at(standing(state, everyJudge()), k);
    }

    int tell(int skater, int k, int judge, int grade) {
        attempt(skater, k);
        judge(judge);
        argument(grade >= -5 && grade <= 5);
        act();
        return attempt(skater, k).grades.set(judge, grade);
    }

    int show(int skater, int component, int judge, int mark) {
        skater(skater);
        component(component);
        judge(judge);
        argument(mark >= 0 && mark <= 10);
        act();
        int was = skater(skater).marks[component][judge];
        skater(skater).marks[component][judge] = mark;
        return was;
    }

    boolean call(int skater, int k, int call, boolean is) {
        attempt(skater, k);
        argument(call >= 0 && call <= 2);
        act();
        boolean was = attempt(skater, k).calls[call];
        attempt(skater, k).calls[call] = is;
        return was;
    }

    int base(int element, int base) {
        element(element);
        argument(base >= 0 && base <= 2000);
        act();
        int was = element(element).base;
        element(element).base = base;
        return was;
    }

    int set(int what, int v) {
        if (what < 0 || what > 6) {
            throw new NoSuchElementException();
        }
        argument(v >= LEAST[what] && v <= MOST[what]);
        act();
        int was = state.settings[what];
        state.settings[what] = v;
        return was;
    }

    int scratch(int skater, int k) {
        attempt(skater, k);
        act();
        skater(skater).attempts.remove(attempt(skater, k));
        return skater(skater).attempts.size();
    }

    int undo() {
        if (before.isEmpty()) {
            return NONE;
        }
        state = before.removeLast();
        return before.size();
    }

    int bias(int judge) {
        judge(judge);
        int bias = 0;
        for (Skater skater : state.skaters) {
            for (Attempt attempt : skater.attempts) {
                bias += 100 * attempt.grades.get(judge) - trimmed(state, attempt.grades, everyJudge());
            }
        }
        return bias;
    }

    int odd() {
        int odd = 0;
        for (int judge = 1; judge < state.judges; judge++) {
            odd = Math.abs(bias(judge)) > Math.abs(bias(odd)) ? judge : odd;
        }
        return odd;
    }

    int without(int skater, int judge) {
        skater(skater);
        judge(judge);
        return total(state, skater(skater), others(judge));
    }

    int sways(int judge) {
        judge(judge);
        List<Integer> with = standing(state, everyJudge());
        List<Integer> without = standing(state, others(judge));
        int sways = 0;
        for (int a : with) {
            for (int b : with) {
                sways += with.indexOf(a) < with.indexOf(b) && without.indexOf(a) > without.indexOf(b) ? 1 : 0;
            }
        }
        return sways;
    }

    int alone(int skater, int judge) {
        skater(skater);
        judge(judge);
        return total(state, skater(skater), List.of(judge));
    }

    int place(int skater, int judge) {
        skater(skater);
        judge(judge);
        return standing(state, List.of(judge)).indexOf(skater);
    }

    int majority(int skater) {
        skater(skater);
        List<Integer> places = places(skater);
        Collections.sort(places);
        return places.get(state.judges / 2);
    }

    int major(int k) {
        List<Integer> order = new ArrayList<>();
        for (int i = 0; i < state.skaters.size(); i++) {
            order.add(i);
        }
        order.sort((a, b) -> {
            int byMajority = Integer.compare(majority(a), majority(b));
            int byBackers = Long.compare(backers(b), backers(a));
            int bySum = Integer.compare(sum(places(a)), sum(places(b)));
            return byMajority != 0 ? byMajority : byBackers != 0 ? byBackers : bySum != 0 ? bySum : a - b;
        });
        return at(order, k);
    }

    int panel(int seed, int n) {
        argument(n >= 1 && n <= state.judges);
        List<Integer> left = everyJudge();
        long x = seed;
        int bits = 0;
        for (int i = 0; i < n; i++) {
            x = Math.floorMod(1103515245L * x + 12345, 1L << 32);
            bits += 1 << left.remove((int) (x / 65536 % 32768 % left.size()));
        }
        return bits;
    }

    int by(int skater, int panel) {
        skater(skater);
        argument(panel > 0 && panel < 1 << state.judges);
        return total(state, skater(skater), judgesOf(panel));
    }

    int firsts(int skater, int n) {
        skater(skater);
        argument(n >= 1 && n <= state.judges);
        int firsts = 0;
        for (int panel = 1; panel < 1 << state.judges; panel++) {
            List<Integer> judges = judgesOf(panel);
            firsts += judges.size() == n && standing(state, judges).get(0) == skater ? 1 : 0;
        }
        return firsts;
    }

    int needed(int skater, int other) {
        skater(skater);
        skater(other);
        argument(skater != other);
        for (int grade = -5; grade <= 5 && !skater(skater).attempts.isEmpty(); grade++) {
            State could = state.copy();
            List<Attempt> attempts = could.skaters.get(skater).attempts;
            Collections.fill(attempts.get(attempts.size() - 1).grades, grade);
            List<Integer> standing = standing(could, everyJudge());
            if (standing.indexOf(skater) < standing.indexOf(other)) {
                return grade;
            }
        }
        return -100;
    }

    int raise(int skater, int k, int judge) {
        int grade = grade(skater, k, judge);
        if (grade == 5) {
            throw new IllegalStateException();
        }
        Skater could = skater(skater).copy();
        for (Attempt attempt : could.attempts) {
            if (attempt.number == k) {
                attempt.grades.set(judge, grade + 1);
            }
        }
        return total(state, could, everyJudge()) - total(state, skater(skater), everyJudge());
    }

    int prime(int skater, int n) {
        Skater it = skater(skater);
        argument(n >= 0 && n <= 12);
        int jumps = 0;
        for (Attempt attempt : it.attempts) {
            jumps |= beginsWithJump(state, attempt) ? 1 << attempt.number : 0;
        }
        int best = NONE;
        int most = 0;
        for (int set = 0; set < 4096; set++) {
            if ((set & ~jumps) == 0 && Integer.bitCount(set) == Math.min(n, Integer.bitCount(jumps))) {
                int points = 0;
                for (Attempt attempt : it.attempts) {
                    points += worth(state, it.attempts, attempt, (set >> attempt.number & 1) == 1);
                }
                if (best == NONE || points > most) {
                    best = set;
                    most = points;
                }
            }
        }
        return best;
    }

    int led(int time) {
        argument(time >= 0 && time <= 600);
        State could = state.copy();
        for (Skater skater : could.skaters) {
            skater.attempts.removeIf(attempt -> attempt.time > time);
        }
        return at(standing(could, everyJudge()), 0);
    }

    int doubt(int skater) {
        int doubt = NONE;
        int most = NONE;
        for (Attempt attempt : skater(skater).attempts) {
            int span = Collections.max(attempt.grades) - Collections.min(attempt.grades);
            if (span > most) {
                most = span;
                doubt = attempt.number;
            }
        }
        return doubt;
    }

    int clean(int skater) {
        Skater could = skater(skater).copy();
        for (Attempt attempt : could.attempts) {
            attempt.calls = new boolean[3];
        }
        return total(state, could, everyJudge());
    }

    int write(int skater) {
        Skater it = skater(skater);
        StringBuilder text = new StringBuilder(it.name + " " + hundredths(total(skater, 4)));
        for (Attempt attempt : it.attempts) {
            List<String> names = new ArrayList<>();
            for (int element : attempt.elements) {
                names.add(state.elements.get(element).name);
            }
            text.append("\n").append(String.join("+", names)).append(attempt.calls[0] ? "<" : "")
                    .append(attempt.calls[1] ? "!" : "").append(late(state, attempt) ? "x" : "")
                    .append(" ").append(hundredths(attempt(skater, attempt.number, 10)));
        }
        written = text.toString();
        return written.length();
    }

    int octet(int k) {
        return k >= 0 && k < written.length() ? written.charAt(k) : NONE;
    }

    int count(int what) {
        if (what >= 3 && what <= 9) {
            return state.settings[what - 3];
        }
        if (what >= 20 && what <= 25) {
            return what - 20 < state.skaters.size() ? state.skaters.get(what - 20).told : NONE;
        }
        switch (what) {
            case 0: return state.elements.size();
            case 1: return state.skaters.size();
            case 2: return state.judges;
            case 10: return state.rules.size();
            case 11: return before.size();
            case 12: return written.length();
            default: return NONE;
        }
    }

    int skaters() {
        return state.skaters.size();
    }

    // ---- what there must be

    private Skater skater(int i) {
        index(i >= 0 && i < state.skaters.size());
        return state.skaters.get(i);
    }

    private Element element(int i) {
        index(i >= 0 && i < state.elements.size());
        return state.elements.get(i);
    }

    private Attempt attempt(int skater, int k) {
        for (Attempt attempt : skater(skater).attempts) {
            if (attempt.number == k) {
                return attempt;
            }
        }
        throw new IndexOutOfBoundsException();
    }

    private void judge(int judge) {
        index(judge >= 0 && judge < state.judges);
    }

    private void component(int component) {
        index(component >= 0 && component < 3);
    }

    private static void index(boolean is) {
        if (!is) {
            throw new IndexOutOfBoundsException();
        }
    }

    private static void argument(boolean is) {
        if (!is) {
            throw new IllegalArgumentException();
        }
    }

    private void act() {
        before.addLast(state);
        state = state.copy();
        if (before.size() > 16) {
            before.removeFirst();
        }
    }

    // ---- what it comes to

    private List<Integer> everyJudge() {
        return judgesOf((1 << state.judges) - 1);
    }

    private List<Integer> others(int judge) {
        List<Integer> others = everyJudge();
        others.remove(Integer.valueOf(judge));
        if (others.isEmpty()) {
            throw new IllegalStateException();
        }
        return others;
    }

    private static List<Integer> judgesOf(int panel) {
        List<Integer> judges = new ArrayList<>();
        for (int judge = 0; judge < 9; judge++) {
            if ((panel >> judge & 1) == 1) {
                judges.add(judge);
            }
        }
        return judges;
    }

    private static int trimmed(State s, List<Integer> votes, List<Integer> panel) {
        List<Integer> left = new ArrayList<>();
        for (int judge : panel) {
            left.add(votes.get(judge));
        }
        Collections.sort(left);
        for (int i = 0; i < s.settings[0] && left.size() > 2; i++) {
            left.remove(left.size() - 1);
            left.remove(0);
        }
        return Math.floorDiv(100 * sum(left), left.size());
    }

    private static int sum(List<Integer> numbers) {
        int sum = 0;
        for (int number : numbers) {
            sum += number;
        }
        return sum;
    }

    private static boolean beginsWithJump(State s, Attempt attempt) {
        return s.elements.get(attempt.elements.get(0)).kind == 0;
    }

    private static boolean late(State s, Attempt attempt) {
        return beginsWithJump(s, attempt) && attempt.time >= s.settings[1];
    }

    private static boolean struck(State s, List<Attempt> all, Attempt attempt, int place) {
        int element = attempt.elements.get(place);
        int ahead = Collections.frequency(attempt.elements.subList(0, place), element);
        for (Attempt other : all) {
            ahead += other.number < attempt.number ? Collections.frequency(other.elements, element) : 0;
        }
        return ahead >= (s.elements.get(element).kind == 0 ? s.settings[3] : 1);
    }

    private static List<Integer> bases(State s, List<Attempt> all, Attempt attempt) {
        List<Integer> bases = new ArrayList<>();
        for (int i = 0; i < attempt.elements.size(); i++) {
            if (!struck(s, all, attempt, i)) {
                bases.add(s.elements.get(attempt.elements.get(i)).base);
            }
        }
        return bases;
    }

    private static int worth(State s, List<Attempt> all, Attempt attempt, boolean late) {
        int worth = sum(bases(s, all, attempt));
        worth = attempt.calls[0] ? Math.floorDiv(worth * 8, 10) : worth;
        worth = attempt.calls[1] ? Math.floorDiv(worth * 7, 10) : worth;
        return late ? worth + Math.floorDiv(worth * s.settings[2], 100) : worth;
    }

    private static int gain(State s, List<Attempt> all, Attempt attempt, List<Integer> panel) {
        List<Integer> bases = bases(s, all, attempt);
        return bases.isEmpty() ? 0 : Math.floorDiv(Collections.max(bases) * trimmed(s, attempt.grades, panel), 1000);
    }

    private static int points(State s, Skater skater, List<Integer> panel) {
        int points = 0;
        for (Attempt attempt : skater.attempts) {
            points += worth(s, skater.attempts, attempt, late(s, attempt));
            points += gain(s, skater.attempts, attempt, panel);
        }
        return points;
    }

    private static int shown(State s, Skater skater, int component, List<Integer> panel) {
        List<Integer> marks = new ArrayList<>();
        for (int mark : skater.marks[component]) {
            marks.add(mark);
        }
        return Math.floorDiv(trimmed(s, marks, panel) * s.settings[4 + component], 100);
    }

    private static Map<String, Long> words(State s, Skater skater) {
        Map<String, Long> words = new HashMap<>();
        for (String word : ModelReader.WORDS) {
            words.put(word, 0L);
        }
        words.put("time", (long) skater.lasts);
        for (Attempt attempt : skater.attempts) {
            words.merge("tries", 1L, Long::sum);
            words.merge("late", late(s, attempt) ? 1L : 0L, Long::sum);
            words.merge("unders", attempt.calls[0] ? 1L : 0L, Long::sum);
            words.merge("edges", attempt.calls[1] ? 1L : 0L, Long::sum);
            words.merge("falls", attempt.calls[2] ? 1L : 0L, Long::sum);
            for (int i = 0; i < attempt.elements.size(); i++) {
                words.merge("struck", struck(s, skater.attempts, attempt, i) ? 1L : 0L, Long::sum);
                int kind = s.elements.get(attempt.elements.get(i)).kind;
                words.merge(kind == 0 ? "jumps" : kind == 1 ? "spins" : "steps", 1L, Long::sum);
            }
        }
        return words;
    }

    private static int amount(Rule rule, Map<String, Long> words) {
        return rule.test.holds(words) ? (int) Math.max(0, Math.min(9999, rule.sum.of(words))) : 0;
    }

    private static int deducted(State s, Skater skater) {
        int deducted = 0;
        for (Rule rule : s.rules) {
            deducted += amount(rule, words(s, skater));
        }
        return deducted;
    }

    private static int total(State s, Skater skater, List<Integer> panel) {
        int total = points(s, skater, panel);
        for (int i = 0; i < 3; i++) {
            total += shown(s, skater, i, panel);
        }
        total -= 100 * (int) (long) words(s, skater).get("falls") + deducted(s, skater);
        return Math.max(total, 0);
    }

    private static List<Integer> standing(State s, List<Integer> panel) {
        List<int[]> rows = new ArrayList<>();
        for (int i = 0; i < s.skaters.size(); i++) {
            Skater skater = s.skaters.get(i);
            rows.add(new int[] {-total(s, skater, panel), -points(s, skater, panel), i});
        }
        rows.sort(java.util.Arrays::compare);
        List<Integer> order = new ArrayList<>();
        for (int[] row : rows) {
            order.add(row[2]);
        }
        return order;
    }

    private List<Integer> places(int skater) {
        List<Integer> places = new ArrayList<>();
        for (int judge = 0; judge < state.judges; judge++) {
            places.add(place(skater, judge));
        }
        return places;
    }

    private long backers(int skater) {
        int majority = majority(skater);
        return places(skater).stream().filter(place -> place <= majority).count();
    }

    private static int at(List<Integer> order, int k) {
        return k >= 0 && k < order.size() ? order.get(k) : NONE;
    }

    private static String hundredths(int value) {
        return java.math.BigDecimal.valueOf(value, 2).toPlainString();
    }
}
