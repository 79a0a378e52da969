import java.util.ArrayList;
import java.util.List;
import java.util.Random;

/** Makes texts: most are right, some have one thing wrong somewhere. */
final class ModelText {
    private static final String[] PIECES = {"element", "judges 3", "do", "show", "skater", "lasts 5", "deduct", "if",
        "and", "or", "+", "-", "*", "(", ")", "<", ";", "7", "601", "00012", "under", "fall", "fff", "a", "abcdefg",
        "late 5", "l", "\r", "?", "\u00ff", "\u0000", "1=1", "jump", "edge edge"};

    private final Random random;
    private final StringBuilder text = new StringBuilder();
    private final List<String> names = new ArrayList<>();
    private final List<Boolean> jumps = new ArrayList<>();
    private int judges = 5;

    ModelText(Random random) {
        this.random = random;
    }

    String text() {
        settings();
        elements();
        rules(random.nextInt(3));
        skaters();
        rules(random.nextInt(4));
        String whole = text.toString();
        if (whole.length() > 600) {
            // Cut behind a line, so that many a long text is still right.
            whole = random.nextInt(5) == 0 ? whole.substring(0, 600) : whole.substring(0, whole.lastIndexOf(';', 599) + 1);
        }
        if (random.nextInt(3) == 0) {
            whole = spoilt(whole);
        }
        return whole.length() > 600 ? whole.substring(0, 600) : whole;
    }

    private String spoilt(String whole) {
        int at = random.nextInt(whole.length() + 1);
        int to = Math.min(whole.length(), at + random.nextInt(4));
        switch (random.nextInt(4)) {
            case 0: return whole.substring(0, at);
            case 1: return whole.substring(0, at) + whole.substring(to);
            case 2: return whole.substring(0, at) + whole.substring(at, to) + whole.substring(at);
            default: return whole.substring(0, at) + " " + PIECES[random.nextInt(PIECES.length)] + " " + whole.substring(to);
        }
    }

    private void put(Object... parts) {
        for (Object part : parts) {
            String token = part.toString();
            boolean apart = text.length() > 0 && glued(text.charAt(text.length() - 1)) && glued(token.charAt(0));
            text.append(apart || random.nextInt(30) == 0 ? blank() : "").append(token);
        }
    }

    private String blank() {
        return random.nextInt(10) == 0 ? "\n" : random.nextInt(10) == 0 ? "\t " : " ";
    }

    private static boolean glued(char c) {
        return c >= 'a' && c <= 'z' || c >= '0' && c <= '9';
    }

    private void settings() {
        if (random.nextInt(4) > 0) {
            judges = 1 + random.nextInt(random.nextInt(3) == 0 ? 9 : 4);
            put("judges", judges, ";");
        }
        if (random.nextBoolean()) {
            put("drop", random.nextInt(4), ";");
        }
        if (random.nextInt(3) == 0) {
            put("half", random.nextInt(601), ";");
        }
        if (random.nextInt(3) == 0) {
            put("late", random.nextInt(51), ";");
        }
        if (random.nextInt(3) == 0) {
            put("repeat", 1 + random.nextInt(3), ";");
        }
        if (random.nextInt(3) == 0) {
            put("factor", random.nextInt(301), random.nextInt(301), random.nextInt(301), ";");
        }
    }

    private String name() {
        int length = random.nextInt(4) == 0 ? 1 + random.nextInt(6) : 1;
        StringBuilder name = new StringBuilder();
        for (int i = 0; i < length; i++) {
            name.append((char) ('a' + random.nextInt(26)));
        }
        return name.toString();
    }

    private void elements() {
        int many = random.nextInt(10) == 0 ? 10 : random.nextInt(5);
        int base = random.nextInt(3) == 0 ? 2001 : random.nextInt(3) == 0 ? 40 : 400;
        for (int i = 0; i < many; i++) {
            String name = name();
            if (names.contains(name)) {
                continue;
            }
            int kind = Math.max(0, random.nextInt(5) - 2);
            names.add(name);
            jumps.add(kind == 0);
            put("element", name, new String[] {"jump", "spin", "steps"}[kind], random.nextInt(base), ";");
        }
    }

    private void skaters() {
        int many = random.nextInt(8) == 0 ? 6 : random.nextInt(4);
        List<String> told = new ArrayList<>();
        for (int i = 0; i < many; i++) {
            String name = name();
            if (told.contains(name)) {
                continue;
            }
            told.add(name);
            put("skater", name, ";");
            if (random.nextInt(3) == 0) {
                put("lasts", random.nextInt(601), ";");
            }
            attempts();
            if (random.nextBoolean()) {
                put("show", votes(), votes(), votes(), ";");
            }
        }
    }

    private void attempts() {
        int many = random.nextInt(6) == 0 ? 12 : random.nextInt(4);
        int time = 0;
        for (int i = 0; i < many && !names.isEmpty(); i++) {
            time = Math.min(600, time + random.nextInt(120));
            put("do");
            int element = random.nextInt(names.size());
            put(names.get(element));
            for (int j = 0; j < 2 && jumps.get(element) && random.nextInt(3) == 0; j++) {
                int joined = jumps.indexOf(true);
                put("+", names.get(random.nextBoolean() ? element : joined));
            }
            put(time, votes());
            for (String call : new String[] {"under", "edge", "fall"}) {
                if (random.nextInt(6) == 0) {
                    put(call);
                }
            }
            put(";");
        }
    }

    private String votes() {
        StringBuilder votes = new StringBuilder();
        boolean wide = random.nextBoolean();
        for (int i = 0; i < judges; i++) {
            votes.append((char) (wide ? 'a' + random.nextInt(11) : 'e' + random.nextInt(4)));
        }
        return votes.toString();
    }

    private void rules(int many) {
        for (int i = 0; i < many; i++) {
            put("deduct");
            sum(4);
            if (random.nextBoolean()) {
                put("if");
                fact();
                while (random.nextInt(3) == 0) {
                    put(random.nextBoolean() ? "and" : "or");
                    fact();
                }
            }
            put(";");
        }
    }

    private void fact() {
        sum(2);
        put(new String[] {"<", "=", ">"}[random.nextInt(3)]);
        sum(1);
    }

    private void sum(int open) {
        atom(open);
        while (random.nextInt(3) == 0) {
            put(new String[] {"+", "-", "*", "*"}[random.nextInt(4)]);
            atom(open);
        }
    }

    private void atom(int open) {
        int dice = random.nextInt(5);
        if (open > 0 && dice == 0) {
            put("(");
            sum(open - 1);
            put(")");
        } else if (dice < 3) {
            put(ModelReader.WORDS.get(random.nextInt(ModelReader.WORDS.size())));
        } else {
            put(random.nextInt(random.nextInt(3) == 0 ? 10000 : 20));
        }
    }
}
