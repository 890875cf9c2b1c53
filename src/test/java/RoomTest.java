import com.sun.management.ThreadMXBean;
import java.lang.management.ManagementFactory;
import java.util.function.Consumer;

/** The dearest calls, as often as an object may be called: they end, and make next to nothing. */
public final class RoomTest {
    private static final int CALLS = 512;
    /** The room holds 7.3 million elements, some 29 million bytes: one object and its calls take a small part. */
    private static final long MOST_BYTES_MADE = 100_000;
    private static final long MOST_BYTES_OF_CALLS = 60_000;

    private static final ThreadMXBean COUNTER = (ThreadMXBean) ManagementFactory.getThreadMXBean();
    private static int wrong = 0;

    private static long made() {
        return COUNTER.getThreadAllocatedBytes(Thread.currentThread().getId());
    }

    private static void within(String what, long bytes, long most) {
        if (bytes > most) {
            wrong++;
            System.out.println(what + ": " + bytes + " bytes were made, " + most + " at most are due");
        }
    }

    private static WarmFloor busy() {
        WarmFloor x = new WarmFloor();
        for (int i = 0; i < 5; i++) {
            x.person(4 * i, 195 + 5 * i, 200 + 5 * i);
            for (char c : "k0:0+;w0:0-;k0:1+;w0:2-;k1:3+;w3:7-".toCharArray()) {
                x.type(i, c);
            }
        }
        int[] kinds = {0, 0, 1, 2, 3, 4, 5, 0};
        for (int i = 0; i < kinds.length; i++) {
            x.dial(kinds[i], 3 * i, kinds[i] == 0 ? 210 : 1);
        }
        x.tune(0, 1, 0xffffff);
        x.sheet(0, 0, 5);
        x.sheet(1, 2, 60);
        return x;
    }

    /** Every other call changes something, so nothing that was worked out before can be used. */
    private static void often(String what, Consumer<WarmFloor> call) {
        WarmFloor x = busy();
        call.accept(x);
        long before = made();
        for (int i = 0; i < CALLS / 2; i++) {
            x.cell(i % 24, 0, 190 + i % 30);
            call.accept(x);
        }
        within(what, made() - before, MOST_BYTES_OF_CALLS);
    }

    public static void main(String[] args) {
        new WarmFloor();
        long before = made();
        new WarmFloor();
        within("new WarmFloor()", made() - before, MOST_BYTES_MADE);
        often("seats", x -> x.seats(0));
        often("best", x -> x.best(9999, 0));
        often("feel", x -> x.feel(0));
        often("worth", x -> x.worth(0));
        often("ring", x -> x.ring());
        often("harm", x -> x.harm(0, 1));
        often("leads", x -> x.leads(0, 1));
        often("fight", x -> x.fight(0, 1));
        often("vote", x -> x.vote(0, 0, 1));
        often("gain", x -> x.gain(0, 0, 1, 2));
        often("monday", x -> x.monday(0, 0, 600, 40));
        often("span", x -> x.span(1, 3));
        often("sheet", x -> x.sheet(2, 1, 60));
        often("copy", x -> x.copy(1, 0, 1, 1, 59));
        often("write", x -> x.write(40, 1));
        often("warmth", x -> x.warmth(40, 0, 0));
        often("wipe", x -> x.wipe(0));
        often("digest", x -> x.digest());
        System.out.println(wrong == 0 ? "all is within the room" : wrong + " calls need too much room");
        if (wrong != 0) {
            System.exit(1);
        }
    }
}
