/** All that questions tell of an object, and how much is on its tape, in one text. */
final class State {
    private static final int[] COUNTS = {0, 1, 2, 3, 4, 5, 6, 7, 8, 9, 10, 11, 12, 13, 19, 20, 21, 22, 23, 24, 25, 26};

    private State() {
    }

    static String of(IceJudge x) {
        StringBuilder told = new StringBuilder();
        put(told, "tape", Check.taped(x));
        put(told, "fault()", x.fault());
        for (int what : COUNTS) {
            put(told, "count(" + what + ")", x.count(what));
        }
        for (int k = 0; k < x.count(12); k++) {
            put(told, "octet(" + k + ")", x.octet(k));
        }
        for (int i = 0; i < x.count(0); i++) {
            name(told, x, false, i);
            put(told, "element(" + i + ", 0)", x.element(i, 0));
            put(told, "element(" + i + ", 1)", x.element(i, 1));
        }
        for (int s = 0; s < x.count(1); s++) {
            name(told, x, true, s);
            skater(told, x, s);
            for (int k = 0; k < x.count(20 + s); k++) {
                attempt(told, x, s, k);
            }
        }
        for (int judge = 0; judge < x.count(2); judge++) {
            put(told, "bias(" + judge + ")", x.bias(judge));
        }
        return told.toString();
    }

    static void same(String what, IceJudge x, String want) {
        String got = of(x);
        if (!got.equals(want)) {
            Check.report(what + ": it is " + difference(got, want));
        }
    }

    private static String difference(String got, String want) {
        String[] gots = got.split(";");
        String[] wants = want.split(";");
        for (int i = 0; i < Math.min(gots.length, wants.length); i++) {
            if (!gots[i].equals(wants[i])) {
                return gots[i] + ", due is " + wants[i];
            }
        }
        return "of " + gots.length + " answers, due are " + wants.length;
    }

    private static void put(StringBuilder told, String what, Object answer) {
        told.append(what).append(' ').append(answer).append(';');
    }

    private static void name(StringBuilder told, IceJudge x, boolean skater, int i) {
        for (int k = 0; k < 7; k++) {
            put(told, "name(" + skater + ", " + i + ", " + k + ")", x.name(skater, i, k));
        }
    }

    private static void skater(StringBuilder told, IceJudge x, int s) {
        for (int what = 0; what < 5; what++) {
            put(told, "total(" + s + ", " + what + ")", x.total(s, what));
        }
        for (int r = 0; r < x.count(10); r++) {
            put(told, "rule(" + s + ", " + r + ")", x.rule(s, r));
        }
        for (int c = 0; c < 3; c++) {
            put(told, "component(" + s + ", " + c + ")", x.component(s, c));
            for (int judge = 0; judge < x.count(2); judge++) {
                put(told, "mark(" + s + ", " + c + ", " + judge + ")", x.mark(s, c, judge));
            }
        }
        put(told, "rank(" + s + ")", x.rank(s));
        put(told, "clean(" + s + ")", x.clean(s));
        put(told, "doubt(" + s + ")", x.doubt(s));
    }

    private static void attempt(StringBuilder told, IceJudge x, int s, int k) {
        for (int i = 0; i < 11; i++) {
            int what = i;
            put(told, "attempt(" + s + ", " + k + ", " + what + ")", Check.outcome(() -> x.attempt(s, k, what)));
        }
        for (int j = 0; j < x.count(2); j++) {
            int judge = j;
            put(told, "grade(" + s + ", " + k + ", " + judge + ")", Check.outcome(() -> x.grade(s, k, judge)));
        }
    }
}
