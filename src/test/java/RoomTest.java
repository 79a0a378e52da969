import java.lang.management.ManagementFactory;

/** Calls make no objects: what a run needs is made with the object that it is about. */
public final class RoomTest {
    private static final String TEXT = "judges 9;element a jump 900;element b jump 800;element c spin 700;"
            + "deduct (1+2*(3+4*(5+6*(7+time)))) if falls=0 or tries>1 and late<9;skater p;lasts 9;"
            + "do a+b+a 1 abcdefghi under edge fall;do c 2 kjihgfedc;do b+a 300 ffffggggh;show abcdefghi aabbccdde kkkkkkkkk;"
            + "skater q;do a 1 hhhhhhhhh;do c 9 eeeeefffa;show ggggggggg hhhhhhhhh iiiiiiiii;";
    private static final long FEW_BYTES = 200_000;

    private static long sum = 0;

    public static void main(String[] args) {
        IceJudge x = Check.read(TEXT);
        byte[] bytes = TEXT.getBytes(java.nio.charset.StandardCharsets.ISO_8859_1);
        manyCalls(x, bytes);
        com.sun.management.ThreadMXBean bean = (com.sun.management.ThreadMXBean) ManagementFactory.getThreadMXBean();
        long thread = Thread.currentThread().getId();
        long before = bean.getThreadAllocatedBytes(thread);
        for (int i = 0; i < 50; i++) {
            manyCalls(x, bytes);
        }
        long made = bean.getThreadAllocatedBytes(thread) - before;
        if (made > FEW_BYTES) {
            Check.report("calls made " + made + " bytes of objects (" + sum + ")");
        }
        Check.finish();
    }

    private static void manyCalls(IceJudge x, byte[] bytes) {
        for (int from = 0; from < bytes.length; from += 20) {
            sum += x.feed(at(bytes, from), at(bytes, from + 4), at(bytes, from + 8), at(bytes, from + 12), at(bytes, from + 16));
        }
        sum += x.end(bytes.length) ? 1 : 0;
        sum += x.read();
        for (int s = 0; s < 2; s++) {
            sum += x.name(true, s, 0) + x.name(false, s, 0) + x.element(s, 0) + x.attempt(s, 0, 10) + x.grade(s, 0, 8);
            sum += x.mean(s, 0) + x.mark(s, 0, 8) + x.component(s, 0) + x.total(s, 4) + x.rule(s, 0) + x.rank(s) + x.ranked(s);
            sum += x.tell(s, 0, 0, 1) + x.show(s, 0, 0, 1) + (x.call(s, 0, 0, true) ? 1 : 0) + x.base(s, 9) + x.set(s, 1);
            sum += x.bias(s) + x.odd() + x.without(s, 0) + x.sways(s) + x.alone(s, 0) + x.place(s, 0) + x.majority(s);
            sum += x.major(s) + x.panel(s, 4) + x.by(s, 77) + x.firsts(s, 4) + x.needed(s, 1 - s) + x.raise(s, 0, 0);
            sum += x.prime(s, 2) + x.led(300) + x.doubt(s) + x.clean(s) + x.write(s) + x.octet(3) + x.count(11);
            sum += x.scratch(s, 1) + x.undo() + x.undo();
        }
    }

    private static int at(byte[] bytes, int from) {
        int number = 0;
        for (int i = from; i < from + 4; i++) {
            number = number << 8 | (i < bytes.length ? bytes[i] & 255 : 0);
        }
        return number;
    }
}
