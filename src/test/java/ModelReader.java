import java.util.ArrayList;
import java.util.List;
import java.util.Map;

/** Reads a text for the model: all tokens first, then line by line. */
final class ModelReader {
    static final List<String> WORDS = List.of("falls", "time", "tries", "jumps", "spins", "steps", "late",
            "struck", "unders", "edges");
    private static final List<String> SETTINGS = List.of("drop", "half", "late", "repeat");
    private static final int[] LEAST = {0, 0, 0, 1};
    private static final int[] MOST = {3, 600, 50, 3};

    private final List<String> tokens = new ArrayList<>();
    private final List<Integer> starts = new ArrayList<>();
    private final Model.State state = new Model.State();
    private int next = 0;
    private boolean judgesAreFixed = false;

    ModelReader(String text) {
        java.util.regex.Matcher matcher = java.util.regex.Pattern
                .compile("[a-z]+|[0-9]+|[^\\t\\n ]", java.util.regex.Pattern.DOTALL).matcher(text);
        while (matcher.find()) {
            tokens.add(matcher.group());
            starts.add(matcher.start());
        }
        tokens.add("");
        starts.add(text.length());
    }

    Model.State read() {
        while (!peek().isEmpty()) {
            line();
            expect(";");
        }
        return state;
    }

    private String peek() {
        return tokens.get(next);
    }

    private void want(boolean is) {
        if (!is) {
            throw new Model.Wrong(starts.get(next));
        }
    }

    private String take() {
        String token = peek();
        next++;
        return token;
    }

    private boolean takeIf(String token) {
        boolean is = peek().equals(token);
        next += is ? 1 : 0;
        return is;
    }

    private void expect(String token) {
        want(peek().equals(token));
        next++;
    }

    private int number(int least, int most) {
        want(peek().matches("[0-9]{1,4}"));
        int number = Integer.parseInt(peek());
        want(number >= least && number <= most);
        next++;
        return number;
    }

    private Model.Skater latest() {
        want(!state.skaters.isEmpty());
        return state.skaters.get(state.skaters.size() - 1);
    }

    private void line() {
        String word = peek();
        if (SETTINGS.contains(word)) {
            next++;
            int what = SETTINGS.indexOf(word);
            state.settings[what] = number(LEAST[what], MOST[what]);
            return;
        }
        switch (word) {
            case "element": elementLine(); break;
            case "judges":
                want(!judgesAreFixed);
                next++;
                state.judges = number(1, 9);
                break;
            case "factor":
                next++;
                for (int i = 4; i < 7; i++) {
                    state.settings[i] = number(0, 300);
                }
                break;
            case "deduct": deductLine(); break;
            case "skater": skaterLine(); break;
            case "do": doLine(); break;
            case "show": showLine(); break;
            case "lasts": {
                Model.Skater skater = latest();
                next++;
                skater.lasts = number(0, 600);
                break;
            }
            default: want(false);
        }
    }

    private void elementLine() {
        want(state.elements.size() < 10);
        next++;
        want(peek().matches("[a-z]{1,6}") && elementCalled(peek()) < 0);
        Model.Element element = new Model.Element();
        element.name = take();
        element.kind = List.of("jump", "spin", "steps").indexOf(peek());
        want(element.kind >= 0);
        next++;
        element.base = number(0, 2000);
        state.elements.add(element);
    }

    private int elementCalled(String name) {
        for (int i = 0; i < state.elements.size(); i++) {
            if (state.elements.get(i).name.equals(name)) {
                return i;
            }
        }
        return -1;
    }

    private void skaterLine() {
        want(state.skaters.size() < 6);
        next++;
        want(peek().matches("[a-z]{1,6}") && state.skaters.stream().noneMatch(s -> s.name.equals(peek())));
        Model.Skater skater = new Model.Skater();
        skater.name = take();
        state.skaters.add(skater);
    }

    private void doLine() {
        Model.Skater skater = latest();
        want(skater.told < 12);
        next++;
        judgesAreFixed = true;
        Model.Attempt attempt = new Model.Attempt();
        attempt.number = skater.told;
        boolean more = true;
        while (more) {
            int element = elementCalled(peek());
            want(element >= 0);
            boolean jump = state.elements.get(element).kind == 0;
            want(jump || attempt.elements.isEmpty());
            attempt.elements.add(element);
            next++;
            more = peek().equals("+");
            if (more) {
                want(jump && attempt.elements.size() < 3);
                next++;
            }
        }
        int told = skater.attempts.size();
        attempt.time = number(told == 0 ? 0 : skater.attempts.get(told - 1).time, 600);
        int[] votes = votes();
        for (int judge = 0; judge < state.judges; judge++) {
            attempt.grades.add(votes[judge] - 5);
        }
        for (int call = callHere(); peek().matches("[a-z]+"); call = callHere()) {
            want(call >= 0 && !attempt.calls[call]);
            attempt.calls[call] = true;
            next++;
        }
        skater.attempts.add(attempt);
        skater.told++;
    }

    private int callHere() {
        return List.of("under", "edge", "fall").indexOf(peek());
    }

    private int[] votes() {
        want(peek().matches("[a-k]{" + state.judges + "}"));
        String word = take();
        int[] votes = new int[9];
        for (int i = 0; i < word.length(); i++) {
            votes[i] = word.charAt(i) - 'a';
        }
        return votes;
    }

    private void showLine() {
        Model.Skater skater = latest();
        next++;
        judgesAreFixed = true;
        for (int i = 0; i < 3; i++) {
            skater.marks[i] = votes();
        }
    }

    private void deductLine() {
        want(state.rules.size() < 6);
        next++;
        Model.Rule rule = new Model.Rule();
        rule.sum = sum(4);
        if (takeIf("if")) {
            rule.test = test();
        }
        state.rules.add(rule);
    }

    private static long kept(long v) {
        return v > 1000000 ? 1000000 : v < -1000000 ? -1000000 : v;
    }

    private Model.Sum sum(int open) {
        Model.Sum sum = term(open);
        while (peek().equals("+") || peek().equals("-")) {
            boolean plus = take().equals("+");
            Model.Sum left = sum;
            Model.Sum right = term(open);
            sum = words -> kept(plus ? left.of(words) + right.of(words) : left.of(words) - right.of(words));
        }
        return sum;
    }

    private Model.Sum term(int open) {
        Model.Sum term = atom(open);
        while (takeIf("*")) {
            Model.Sum left = term;
            Model.Sum right = atom(open);
            term = words -> kept(left.of(words) * right.of(words));
        }
        return term;
    }

    private Model.Sum atom(int open) {
        if (peek().equals("(")) {
            want(open > 0);
            next++;
            Model.Sum sum = sum(open - 1);
            expect(")");
            return sum;
        }
        if (WORDS.contains(peek())) {
            String word = take();
            return words -> words.get(word);
        }
        int number = number(0, 9999);
        return words -> number;
    }

    private Model.Test test() {
        Model.Test test = part();
        while (takeIf("or")) {
            Model.Test left = test;
            Model.Test right = part();
            test = words -> left.holds(words) || right.holds(words);
        }
        return test;
    }

    private Model.Test part() {
        Model.Test part = fact();
        while (takeIf("and")) {
            Model.Test left = part;
            Model.Test right = fact();
            part = words -> left.holds(words) && right.holds(words);
        }
        return part;
    }

    private Model.Test fact() {
        Model.Sum left = sum(4);
        want(List.of("<", "=", ">").contains(peek()));
        String relation = take();
        Model.Sum right = sum(4);
        return words -> relation.equals(compared(left, right, words));
    }

    private static String compared(Model.Sum left, Model.Sum right, Map<String, Long> words) {
        long a = left.of(words);
        long b = right.of(words);
        return a < b ? "<" : a > b ? ">" : "=";
    }
}
