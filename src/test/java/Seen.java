import java.util.NoSuchElementException;

/** What an object shows without being changed by it, to see that a refused call changes nothing. */
final class Seen {
    private Seen() {
    }

    /** An object that has some of everything: pendulums, carts, portraits, points, birthdays, a score, an evening, an image. */
    static PenSwings rich() {
        PenSwings x = Check.told("pendulum kick 4 30 1 10;pendulum even 6 20 2 0;pendulum bowl 5 40 3 0;pendulum kick 8 50 0 0;"
            + "cart 2 3 -4;cart 900 -20 20;pennies 1 2 3 0;");
        x.keep();
        x.set(0, 0, 4);
        x.keep();
        x.set(2, 1, 50);
        x.keep();
        x.point(3, 10, -20);
        x.point(7, 260, -260);
        x.birthday(0);
        x.birthday(7);
        x.birthday(364);
        x.evening(7);
        x.image();
        x.set(3, 2, 51);
        Check.is("the score", Check.score(x, "draw 7 when right (lift 3)"), 0);
        Check.is("a fault", Check.swings(x, "cart 1 2"), 1);
        Check.feed(x, "cart 1 1 1;");
        return x;
    }

    /** All but STATUS, the tape and the place of a fault. */
    static String of(PenSwings x) {
        StringBuilder s = new StringBuilder();
        for (int what = 0; what <= 4; what++) {
            s.append(x.count(what)).append(' ');
        }
        for (int p = 0; p < 4; p++) {
            for (int what = 0; what <= 6; what++) {
                s.append(x.pendulum(p, what)).append(' ');
            }
        }
        for (int axis = 0; axis < 2; axis++) {
            s.append(x.pen(0, axis)).append(' ').append(x.pen(5, axis)).append(' ').append(x.pen(999, axis)).append(' ');
        }
        for (int what = 0; what <= 3; what++) {
            s.append(x.performed(what)).append(' ').append(x.fits(5, 90, what)).append(' ').append(x.cart(what)).append(' ');
        }
        s.append("factor ").append(x.factor(0)).append(' ').append(x.factor(1)).append(' ');
        s.append("kinds ").append(x.kinds(PenSwings.NONE)).append(' ');
        for (int i = 1; i < x.count(2); i++) {
            s.append(x.laid(0, i, 0, 50, 0)).append(' ').append(x.laid(0, i, 0, 50, 1)).append(' ');
        }
        return s.append(evening(x)).toString();
    }

    static String evening(PenSwings x) {
        StringBuilder s = new StringBuilder("evening ");
        for (int i = PenSwings.NONE; i < 8; i++) {
            try {
                s.append(x.drawing(i)).append(' ');
            } catch (NoSuchElementException e) {
                s.append("none");
                break;
            }
        }
        return s.toString();
    }

    static int[] status(PenSwings x) {
        return new int[] {x.count(6), x.count(7), x.count(8), x.count(9), x.count(10)};
    }

    /** A call that is thrown back leaves all as it was, STATUS too. */
    static void unchanged(String name, PenSwings x, Edges.Test call) {
        refused(name, x, call, status(x));
    }

    /** A refused call leaves all as it was, but one number of STATUS is one more. */
    static void counted(String name, PenSwings x, int number, Edges.Test call) {
        int[] status = status(x);
        status[number]++;
        refused(name, x, call, status);
    }

    private static void refused(String name, PenSwings x, Edges.Test call, int[] status) {
        int[] tape = {x.count(5), x.fault()};
        kept(name, x, call);
        Check.row(name + ", STATUS", status(x), status);
        Check.row(name + ", tape and fault", new int[] {x.count(5), x.fault()}, tape);
    }

    /** A call that leaves all as it was, but for STATUS, the tape and the place of a fault. */
    static void kept(String name, PenSwings x, Edges.Test call) {
        String before = of(x);
        call.run();
        String behind = of(x);
        Check.is(name + " leaves all as it was: " + before + " / " + behind, before.equals(behind) ? 1 : 0, 1);
    }
}
