import java.nio.charset.StandardCharsets;

/** Compares what calls answer with what is due, and counts those that are wrong. */
final class Check {
    interface Call {
        long answer();
    }

    interface Ask {
        long of(IceJudge x);
    }

    private static int wrong = 0;
    private static String sentence = "";

    private Check() {
    }

    /** The words of the document that the answers behind it are about. */
    static void says(String words) {
        sentence = "\"" + words + "\": ";
    }

    /** One call on an object that has done nothing but read a text. */
    static void asked(String text, String what, long want, Ask ask) {
        IceJudge x = read(text);
        due(what + " of " + text, want, () -> ask.of(x));
    }

    /** One call, on an object that has done nothing but read a text, that throws. */
    static void refused(String text, String what, Class<? extends RuntimeException> want, Ask ask) {
        IceJudge x = read(text);
        throwsDue(what + " of " + text, want, () -> ask.of(x));
    }

    static int truth(boolean is) {
        return is ? 1 : 0;
    }

    static void due(String what, long want, Call call) {
        String got = outcome(call);
        if (!got.equals(Long.toString(want))) {
            report(what + " answered " + got + ", due is " + want);
        }
    }

    static void throwsDue(String what, Class<? extends RuntimeException> want, Call call) {
        String got = outcome(call);
        if (!got.equals("throws." + want.getSimpleName())) {
            report(what + " answered " + got + ", due is throws." + want.getSimpleName());
        }
    }

    static void report(String line) {
        wrong++;
        if (wrong <= 50) {
            System.out.println(sentence + line);
        }
    }

    static String outcome(Call call) {
        try {
            return Long.toString(call.answer());
        } catch (RuntimeException e) {
            return "throws." + e.getClass().getSimpleName();
        }
    }

    static void put(IceJudge x, String text) {
        put(x, text.getBytes(StandardCharsets.ISO_8859_1));
    }

    static void put(IceJudge x, byte[] text) {
        int[] five = new int[5];
        for (int from = 0; from < text.length; from += 20) {
            for (int i = 0; i < 20; i++) {
                int octet = from + i < text.length ? text[from + i] & 255 : 0;
                five[i / 4] = five[i / 4] << 8 | octet;
            }
            x.feed(five[0], five[1], five[2], five[3], five[4]);
        }
        if (!x.end(text.length)) {
            report("a text of " + text.length + " bytes could not be fed");
        }
    }

    static IceJudge read(String text) {
        IceJudge x = new IceJudge();
        put(x, text);
        String got = outcome(x::read);
        if (got.startsWith("throws")) {
            report("read() of " + text + " answered " + got + ", its fault is " + x.fault());
        }
        return x;
    }

    /** The text is right where the fault that is due is NONE. */
    static void faultDue(String text, int want) {
        IceJudge x = new IceJudge();
        put(x, text);
        String got = outcome(x::read);
        boolean thrown = got.equals("throws.IllegalArgumentException");
        if (x.fault() != want || thrown != (want != IceJudge.NONE)) {
            report("read() of " + text + " answered " + got + " with fault " + x.fault() + ", due is fault " + want);
        }
    }

    static String written(IceJudge x, int skater) {
        int size = x.write(skater);
        StringBuilder text = new StringBuilder();
        for (int k = 0; k < size; k++) {
            text.append((char) x.octet(k));
        }
        return text.toString();
    }

    static void writtenDue(IceJudge x, int skater, String want) {
        String got = written(x, skater);
        if (!got.equals(want)) {
            report("write(" + skater + ") wrote " + got + ", due is " + want);
        }
    }

    /** How many bytes the tape has, without a change of it: only an end at all of them is true. */
    static int taped(IceJudge x) {
        for (int n = 600; n > 0; n--) {
            if (x.end(n)) {
                return n;
            }
        }
        return 0;
    }

    static void finish() {
        System.out.println(wrong == 0 ? "all answers are as due" : wrong + " answers are not as due");
        if (wrong != 0) {
            System.exit(1);
        }
    }
}
