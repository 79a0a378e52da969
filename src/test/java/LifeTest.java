/** "An object is used for at most 512 calls after it has been made": the last of them is answered as the first. */
public final class LifeTest {
    private static final int CALLS = 512;
    private static final String TEXT = "judges 9;element a jump 900;element b spin 800;skater s;do a+a+a 7 abcdefghi under;"
            + "do b 8 kkkkkkkkk;skater t;do b 9 fffffffff;deduct tries;";

    public static void main(String[] args) {
        questions();
        refusals();
        acts();
        texts();
        wrongTexts();
        tapes();
        Check.finish();
    }

    private static void questions() {
        Check.says("An object is used for at most 512 calls after it has been made");
        IceJudge x = new IceJudge();
        int calls = readCalls(x);
        int first = x.firsts(0, 5);
        for (calls++; calls < CALLS - 1; calls++) {
            x.firsts(0, 5);
        }
        Check.due("the 512th call", first, () -> x.firsts(0, 5));
    }

    private static void refusals() {
        Check.says("An object is used for at most 512 calls after it has been made");
        IceJudge x = new IceJudge();
        for (int i = 0; i < CALLS - 1; i++) {
            Check.throwsDue("call " + i, IndexOutOfBoundsException.class, () -> x.write(0));
        }
        Check.due("the 512th call", 5, () -> x.count(2));
    }

    private static void acts() {
        Check.says("An object is used for at most 512 calls after it has been made");
        IceJudge x = new IceJudge();
        int acts = CALLS - readCalls(x) - 17;
        for (int i = 0; i < acts; i++) {
            x.base(0, i);
        }
        for (int i = 15; i >= 0; i--) {
            Check.due("undo()", i, x::undo);
        }
        Check.due("the 512th call", acts - 17, () -> x.element(0, 0));
    }

    private static void texts() {
        Check.says("An object is used for at most 512 calls after it has been made");
        IceJudge x = new IceJudge();
        int calls = 0;
        while (calls + 20 < CALLS) {
            calls += readCalls(x);
            Check.due("total(0, 4)", 1800 * 8 / 10 - 90 + 1200 - 2, () -> x.total(0, 4));
            calls++;
        }
        Check.due("a later call", 2, () -> x.count(1));
    }

    private static void wrongTexts() {
        Check.says("An object is used for at most 512 calls after it has been made");
        IceJudge x = new IceJudge();
        readCalls(x);
        for (int i = 0; i < 100; i++) {
            Check.put(x, "judges 3;skater u;?");
            Check.throwsDue("read()", IllegalArgumentException.class, x::read);
            Check.due("fault()", 18, x::fault);
        }
        Check.due("count(1)", 2, () -> x.count(1));
    }

    private static void tapes() {
        Check.says("Twenty bytes come behind the TAPE; NONE, and none come, if it would have more than 600");
        IceJudge x = new IceJudge();
        for (int i = 1; i < CALLS; i++) {
            int n = i;
            Check.due("feed " + i, n <= 30 ? 20 * n : IceJudge.NONE, () -> x.feed(n, n, n, n, n));
        }
        Check.due("the 512th call", 1, () -> Check.truth(x.end(600)));
    }

    private static int readCalls(IceJudge x) {
        Check.put(x, TEXT);
        x.read();
        return (TEXT.length() + 19) / 20 + 2;
    }
}
