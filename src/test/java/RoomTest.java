import com.sun.management.ThreadMXBean;
import java.lang.management.ManagementFactory;

/** The room of a run: a new object takes little, and its calls make nothing at all. */
public final class RoomTest {
    private static final Due DUE = new Due();
    private static final ThreadMXBean THREADS = (ThreadMXBean) ManagementFactory.getThreadMXBean();
    private static final String TEXT = "r9,9;c4,0,1;c5,1,2;p6,2,3;y7,3,4;o8,4,5;b3,5,6;";

    private static long made() {
        return THREADS.getThreadAllocatedBytes(Thread.currentThread().getId());
    }

    private static void everyCall(SwanDeeds x) {
        for (int i = 0; i < TEXT.length(); i++) {
            x.feed(TEXT.charAt(i));
        }
        x.river();
        x.fault();
        x.row(0, 2, 12);
        x.row(1, 2, 40);
        x.set(0, 3, 5);
        x.copy(0, 0, 1, 3, 12);
        x.drop(1);
        x.image(0);
        x.days(2);
        x.bread(0, 9);
        x.weir(3, 1);
        x.frighten(0, 0);
        x.weight(1, 3);
        x.undo();
        x.restore(0);
        for (int what = 0; what < 8; what++) {
            x.count(what);
            x.swan(1, what);
            x.lawn(1, what);
        }
        x.ahead(0, 60);
        x.owns(0, 60);
        x.nobody(60);
        x.moves(0);
        x.evening();
        x.stays(0, 0, 60);
        x.crusts(0, 8, 20, 0);
        x.weirs(0, 8, 20, 1);
        x.hold(0, 1);
        x.meet(0, 1);
        x.fights(60);
        x.doubles(1);
        x.who(0, 0, 1, 0, 0, 12);
        x.who(0, 1, 1, 0, 0, 12);
        x.who(0, 2, 1, 0, 0, 12);
        x.which(0, 0, 12);
        x.hungry(60);
        x.sink(0, 4, 3, 0);
        x.drawn(60, 7, 1);
        for (int one = 0; one < 6; one++) {
            x.kind(one);
            x.as(one, one);
            x.ask(one, 0);
            x.ask(one, 1);
        }
        x.trace(3);
        x.status();
    }

    public static void main(String[] args) {
        everyCall(new SwanDeeds());
        long before = made();
        long nothing = made() - before;
        before = made();
        SwanDeeds x = new SwanDeeds();
        long byObject = made() - before - nothing;
        before = made();
        everyCall(x);
        long byCalls = made() - before - nothing;
        System.out.println("a new object takes " + byObject + " bytes, its calls " + byCalls);
        DUE.is("bytes of a new object beyond 32000", byObject > 32000 ? byObject : 0, 0);
        DUE.is("bytes that calls make", byCalls, 0);
        DUE.end("RoomTest");
    }
}
