/** Promise 1: a new object has nothing told. */
public final class NewObjectTest {
    public static void main(String[] args) {
        PenSwings x = new PenSwings();
        for (int what = 0; what <= 10; what++) {
            Check.is("count " + what, x.count(what), 0);
        }
        int[] untold = {0, 2, 0, 0, 0, 0, 2};
        for (int p = 0; p < 4; p++) {
            for (int what = 0; what < untold.length; what++) {
                Check.is("pendulum " + p + " " + what, x.pendulum(p, what), untold[what]);
            }
            Check.is("swing " + p, x.swing(p, 1), 0);
        }
        Check.is("fault", x.fault(), PenSwings.NONE);
        Check.is("round", x.round(), 1);
        Check.is("off", x.off(), 0);
        Check.is("performed 0", x.performed(0), 0);
        Check.is("performed 1", x.performed(1), 0);
        Check.is("performed 2", x.performed(2), 0);
        Check.is("performed 3", x.performed(3), 364);
        Check.is("kinds", x.kinds(PenSwings.NONE), 0);
        Check.is("unpoint", x.unpoint(), PenSwings.NONE);
        Check.is("forget", x.forget(), 0);
        Check.is("restore", x.restore() ? 1 : 0, 0);
        Check.noSuch("drawing", () -> x.drawing(PenSwings.NONE));
        Check.noSuch("take", () -> {
            x.take(0);
            return 0;
        });
        Check.end();
    }
}
