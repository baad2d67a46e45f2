import com.sun.management.ThreadMXBean;
import java.lang.management.ManagementFactory;

/** All calls of a run live in one room: an object is made once, its calls make nothing. */
public final class RoomTest {
    private static final ThreadMXBean BEAN = (ThreadMXBean) ManagementFactory.getThreadMXBean();
    private static final Due due = new Due();

    public static void main(String[] args) {
        // The first run of all loads the classes.
        aRun(new TattooRoads());
        long before = made();
        TattooRoads x = new TattooRoads();
        long object = made() - before;
        due.is("an object takes some twenty thousand bytes at most: " + object, 1, object < 20000 ? 1 : 0);
        before = made();
        aRun(x);
        long run = made() - before;
        due.is("a run makes next to nothing: " + run, 1, run < 2000 ? 1 : 0);
        due.end();
    }

    private static long made() {
        return BEAN.getThreadAllocatedBytes(Thread.currentThread().getId());
    }

    private static void aRun(TattooRoads x) {
        for (int i = 0; i < 14; i++) {
            x.way(i % 10, (i + 1) % 10);
        }
        x.deal(8);
        x.sheet(0, 1, 24);
        x.sheet(1, 1, 24);
        for (int i = 0; i < 14; i++) {
            x.feed('u' << 24 | 'r' << 16 | 'g' << 8 | 'e', ' ' << 24 | '(' << 16 | 'w' << 8 | '+', 'a' << 24 | ')' << 16 | '*' << 8 | '3');
            x.text();
        }
        for (int i = 0; i < 14; i++) {
            x.days(100);
            x.inks(i % 8, 60, 0);
            x.becomes(i % 8, 60, 0);
            x.arrives(i % 8, i % 10);
            x.behind(100, 3);
            x.like(0, 1);
            x.company(i % 10, (i + 3) % 10, 0);
            x.regiment(0);
            x.dear(0);
            x.reach(i % 8);
            x.journey(255, 0, i % 10);
            x.copy(0, 0, 1, 0, 24);
            x.lay(0, 1, i % 8);
            x.lay(1, 2, 0);
            x.ask(0, 0);
            x.item(1, i);
            x.pour(0);
            x.reads(0);
            x.keep();
            x.tell(i);
            x.check(30);
            x.back();
            x.fee();
            x.fine(0);
        }
    }
}
