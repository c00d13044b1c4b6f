import com.sun.management.ThreadMXBean;
import java.lang.management.ManagementFactory;

/** The room that 512 calls of the dearest kinds take: 600,000 objects, 7.3 million elements. */
public final class RoomTests {
    // No object takes less than 16 bytes, and no element less than 1: fewer bytes than these
    // are fewer objects and fewer elements than there may be.
    private static final long MOST_BYTES = 7_300_000;
    private static final int MOST_CALLS = 512;
    private static final String TWENTY_WORDS = "a b c d e f g h i j k l m n o p q r s t ";

    private interface Run {
        void go(CoinbookSorter sorter, int left);
    }

    private RoomTests() {
    }

    public static void main(String[] args) {
        room("words", (x, left) -> {
            for (int i = 0; i < left; i++) {
                x.words();
            }
        });
        room("stop words that come and go", (x, left) -> {
            for (int i = 0; i < left / 2; i++) {
                x.addStops();
                x.removeStops();
            }
        });
        room("rules that come and go", (x, left) -> {
            for (int i = 0; i < left / 2; i++) {
                x.addRule(0, 0, 0);
                x.removeRule(0);
            }
        });
        room("lines and questions", (x, left) -> {
            for (int i = 0; i < 60; i++) {
                x.addLine(i, 1);
                x.correct(i, i % 8);
            }
            for (int i = 0; i < (left - 120) / 3; i++) {
                x.sumOf(i % 8);
                x.nextDue(i % 60);
                x.rankedAt(i % 60, 7);
            }
        });
        Check.close("RoomTests");
    }

    private static void room(String what, Run run) {
        ThreadMXBean threads = (ThreadMXBean) ManagementFactory.getThreadMXBean();
        long thread = Thread.currentThread().getId();
        long before = threads.getThreadAllocatedBytes(thread);
        CoinbookSorter sorter = new CoinbookSorter();
        for (int i = 0; i < TWENTY_WORDS.length(); i++) {
            sorter.type(TWENTY_WORDS.charAt(i));
        }
        run.go(sorter, MOST_CALLS - TWENTY_WORDS.length());
        long taken = threads.getThreadAllocatedBytes(thread) - before;
        Check.that(what + " took " + taken + " bytes", taken > 0 && taken < MOST_BYTES);
    }
}
