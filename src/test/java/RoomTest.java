import com.sun.management.ThreadMXBean;
import java.lang.management.ManagementFactory;

/** All calls of a run live in one room: what an object makes is made with it, the dearest calls make nothing more. */
public final class RoomTest {
    private static final ThreadMXBean BEAN = (ThreadMXBean) ManagementFactory.getThreadMXBean();

    public static void main(String[] args) {
        made(new PenSwings());
        long before = bytes();
        PenSwings x = new PenSwings();
        long own = bytes() - before;
        Check.is("an object's own bytes are below 60000: " + own, own < 60000 ? 1 : 0, 1);
        String[] texts = {"pendulum even 37 90 3 1;pendulum bowl 39 80 1 1;pendulum kick 40 70 1 2;pendulum bowl 31 90 0 3;",
            "repeat 10(repeat 5(draw 199 penny 1 1 size 0 -1 when not marked(turn)else(size 0 1)))"};
        for (int k = 0; k < 2; k++) {
            Check.feed(x, texts[k]);
            Check.is("text " + k, k == 0 ? x.swings(texts[k].length()) : x.score(texts[k].length()), 0);
        }
        made(x);
        long start = bytes();
        for (int i = 0; i < 25; i++) {
            made(x);
        }
        long more = bytes() - start;
        Check.is("500 calls make nothing: " + more, more < 4000 ? 1 : 0, 1);
        Check.end();
    }

    private static long bytes() {
        return BEAN.getThreadAllocatedBytes(Thread.currentThread().getId());
    }

    /** Twenty calls, the dearest ones among them. */
    private static void made(PenSwings x) {
        x.set(0, 1, x.pendulum(0, 3) == 7 ? 8 : 7);
        x.performed(0);
        x.marks(364);
        x.keep();
        x.alike(0, 0);
        x.kinds(PenSwings.NONE);
        x.point(5, 6, 7);
        x.fits(5, 99, 0);
        x.cart(0);
        x.chord(3, 4, 0);
        x.birthday(100 + x.count(4));
        x.factor(0);
        x.drawn(0, 999);
        x.inCell(0, 0, 999);
        x.laid(0, 0, 0, 999, 0);
        x.evening(1);
        x.off();
        x.image();
        x.restore();
        x.feed(1, 2, 3, 4, 5);
    }
}
