import java.lang.management.ManagementFactory;

/** Rule 12: the dearest calls, 512 of them, make so little that a run never fills its room; and no call ever throws. */
public final class RoomTest {
    private static final com.sun.management.ThreadMXBean BEAN =
            (com.sun.management.ThreadMXBean) ManagementFactory.getThreadMXBean();
    private static final int[] ODD = {Integer.MIN_VALUE, -1000, -2, -1, 0, 1, 2, 5, 6, 7, 30, 39, 40, 41, 59, 60, 61, 999, 1000,
        1600, 1601, Integer.MAX_VALUE};

    private RoomTest() {
    }

    private static DistantVoice largest() {
        StringBuilder b = new StringBuilder("round 200;voice 7;hush 3;cough 50;");
        for (int i = 0; i < 7; i++) {
            b.append("ear e").append((char) ('a' + i)).append(" row ").append(i).append(" sharp ").append(9 - i).append(";");
        }
        for (int i = 0; i < 6; i++) {
            b.append("place p").append((char) ('a' + i)).append(" at ").append(30 * i + 9).append(" talk ").append(i).append(";");
        }
        b.append("goes 7+rounds%3;talks talk+hush/4;hears far<90");
        while (b.length() < 1580) {
            b.append("+sharp-row%3");
        }
        return Check.made(b.append(";").toString());
    }

    private static void ask(DistantVoice x, int turn) {
        x.seats(40, -1);
        x.silence(40);
        x.tells(2);
        x.miles(-1);
        x.odds(6);
        x.quiet(6, 40);
        x.watch(40);
        x.chance(1);
        x.hush(turn % 10);
        x.undo();
        x.image();
    }

    private static void dearest() {
        DistantVoice x = largest();
        ask(x, 5);
        long before = BEAN.getThreadAllocatedBytes(Thread.currentThread().getId());
        for (int i = 0; i < 20; i++) {
            ask(x, i);
        }
        long made = BEAN.getThreadAllocatedBytes(Thread.currentThread().getId()) - before;
        Check.due("nothing is made by 220 calls (bytes " + made + ")", made < 4096, true);
    }

    private static void objects() {
        // Once unmeasured: what the machine makes when it first sees the classes is not the program's.
        largest();
        long before = BEAN.getThreadAllocatedBytes(Thread.currentThread().getId());
        DistantVoice x = new DistantVoice();
        long made = BEAN.getThreadAllocatedBytes(Thread.currentThread().getId()) - before;
        Check.due("a new object is small (bytes " + made + ")", made < 30000, true);
        before = BEAN.getThreadAllocatedBytes(Thread.currentThread().getId());
        for (int i = 0; i < 80; i++) {
            x.feed(0x28282828, 0x28282828, 0x28282828, 0x28282828, 0x28282828);
        }
        x.house();
        made = BEAN.getThreadAllocatedBytes(Thread.currentThread().getId()) - before;
        Check.due("house() makes some rows of the tape's length (bytes " + made + ")", made < 40000, true);
    }

    /** Every call with odd arguments in every state: it must come back, whatever it answers. */
    private static void odd(DistantVoice x) {
        for (int a : ODD) {
            x.fault(a);
            x.has(a);
            x.round(a);
            x.heard(a);
            x.watch(a);
            x.silence(a);
            x.odds(a);
            x.miles(a);
            x.tells(a);
            x.octet(a);
            x.status(a);
            x.seed(a);
            for (int b : ODD) {
                x.ear(a, b);
                x.place(a, b);
                x.later(a, b);
                x.often(a, b);
                x.quiet(a, b);
                x.seats(a, b);
                x.kept(a, b);
                x.letter(a, b, a);
                x.letter(0, a, b);
                x.letter(1, a, b);
                x.sit(a, b);
                x.please(a, b);
            }
            x.hush(a);
            x.feed(a, a, a, a, a);
            x.end(a);
            x.stride();
            x.image();
        }
        x.mark();
        x.feed(-1, -1, -1, -1, -1);
        x.on();
        x.undo();
        Check.due("it came back", x.status(6), -1);
    }

    public static void main(String[] args) {
        objects();
        dearest();
        odd(new DistantVoice());
        odd(largest());
        odd(Check.made("round 5;"));
        DistantVoice x = Check.made("round 5;ear a row 0 sharp 0;place p at 1 talk 9;");
        Check.due("on", Check.on(x, Check.image(999, 4, 999, 20, 9, 9, 9)), true);
        odd(x);
        Check.finish();
    }
}
