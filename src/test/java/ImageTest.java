/** Promises 32 image, 33 restore. */
public final class ImageTest {
    public static void main(String[] args) {
        PenSwings x = Check.told("pendulum even 8 40 3 7;pendulum bowl 9 20 1 0;cart 5 1 1;pennies 1 2 3 4;");
        Check.is("none yet", x.restore() ? 1 : 0, 0);
        x.keep();
        x.set(0, 0, 5);
        x.keep();
        x.point(1, 2, 3);
        x.birthday(9);
        x.birthday(11);
        int best = x.factor(0);
        x.image();
        x.set(0, 0, 9);
        x.set(0, 1, 9);
        x.set(0, 2, 9);
        x.keep();
        x.unpoint();
        x.point(7, 8, 9);
        x.point(7, 8, 9);
        x.forget();
        x.birthday(100);
        x.set(0, 0, 99);
        Check.is("score", Check.score(x, "draw 7"), 0);
        Check.is("restored", x.restore() ? 1 : 0, 1);
        Check.is("pennies", x.pendulum(0, 5), 5);
        Check.is("start", x.pendulum(0, 3), 3);
        Check.is("size", x.pendulum(0, 2), 40);
        Check.is("portraits", x.count(2), 2);
        Check.is("points", x.count(3), 1);
        Check.is("birthdays", x.count(4), 2);
        Check.is("factor", x.factor(0), best);
        Check.is("status stays", x.count(7), 1);
        Check.is("score stays", x.performed(2), 7);
        x.take(0);
        Check.is("the first portrait", x.pendulum(0, 5), 1);
        x.take(1);
        Check.is("the second portrait", x.pendulum(0, 5), 5);
        pointIsBack(x);
        x.set(0, 0, 0);
        Check.is("restored again", x.restore() ? 1 : 0, 1);
        Check.is("pennies again", x.pendulum(0, 5), 5);
        x.set(0, 0, 8);
        x.image();
        x.set(0, 0, 0);
        x.restore();
        Check.is("the latest image", x.pendulum(0, 5), 8);
        afterRestoreChangesLeaveTheImage(x);
        Check.is("swings with a fault", Check.swings(x, "x"), 1);
        Check.is("stays", x.restore() ? 1 : 0, 1);
        Check.is("swings", Check.swings(x, ""), 0);
        Check.is("gone", x.restore() ? 1 : 0, 0);
        Check.end();
    }

    private static void pointIsBack(PenSwings x) {
        int along = Math.abs(x.pen(1, 0) - 2);
        int across = Math.abs(x.pen(1, 1) - 3);
        x.set(0, 0, 0);
        x.set(1, 0, 0);
        x.set(2, 0, 0);
        x.set(3, 0, 0);
        Check.is("off the point", x.fits(0, 0, 3), Math.abs(x.pen(1, 0) - 2) + Math.abs(x.pen(1, 1) - 3));
        Check.is("asked", along + across >= 0 ? 1 : 0, 1);
    }

    private static void afterRestoreChangesLeaveTheImage(PenSwings x) {
        x.restore();
        x.keep();
        x.birthday(1);
        x.point(1, 1, 1);
        x.set(0, 0, 2);
        x.restore();
        Check.is("portraits", x.count(2), 2);
        Check.is("birthdays", x.count(4), 2);
        Check.is("points", x.count(3), 1);
        Check.is("pennies", x.pendulum(0, 5), 8);
    }
}
