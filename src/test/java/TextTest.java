/** Promises 2 feed, 3 swings, 7 fault, 8 count: the tape, the text that tells the swings, its faults. */
public final class TextTest {
    private static final String PENDULUM = "pendulum even 8 5 0 0;";

    public static void main(String[] args) {
        feeding();
        bytesInOrder();
        swingsTold();
        faultOne();
        faultTwo();
        faultThree();
        limits();
        whatStaysAndGoes();
        counts();
        Check.end();
    }

    private static void feeding() {
        PenSwings x = new PenSwings();
        for (int i = 1; i <= 20; i++) {
            Check.is("feed " + i, x.feed(0, 0, 0, 0, 0), 20 * i);
        }
        Check.is("feed 21", x.feed(0, 0, 0, 0, 0), PenSwings.NONE);
        Check.is("bytes", x.count(5), 400);
        Check.illegal("swings 401", () -> x.swings(401));
        Check.illegal("score 401", () -> x.score(401));
        Check.illegal("swings -1", () -> x.swings(-1));
        Check.illegal("score -1", () -> x.score(-1));
        Check.illegal("swings least", () -> x.swings(Integer.MIN_VALUE));
        Check.is("bytes behind wrong calls", x.count(5), 400);
        Check.is("fault behind wrong calls", x.fault(), PenSwings.NONE);
        Check.is("swings", x.swings(400), 1);
        Check.is("bytes behind swings", x.count(5), 0);
        Check.is("feed", x.feed(1, 2, 3, 4, 5), 20);
        Check.is("score", x.score(20), 1);
        Check.is("bytes behind score", x.count(5), 0);
    }

    private static void bytesInOrder() {
        PenSwings x = new PenSwings();
        // "cart" " 7 2" " -3;" and blanks: of each number the highest byte first.
        x.feed(0x63617274, 0x20372032, 0x202d333b, 0x20202020, 0x0a0a0a0a);
        Check.is("swings", x.swings(20), 0);
        Check.is("carts", x.count(1), 1);
        Check.is("along 6", x.pen(6, 0), 0);
        Check.is("along 7", x.pen(7, 0), 2);
        Check.is("across 7", x.pen(7, 1), -3);
    }

    private static void swingsTold() {
        PenSwings x = Check.told("pendulum even 8 40 3 7;\npendulum bowl9 90 99 99 ;cart0-20 20;pennies1 2 3 9;");
        Check.is("told", x.count(0), 2);
        int[][] due = {{0, 8, 40, 3, 7, 1, 9}, {1, 9, 90, 99, 99, 2, 11}, {0, 2, 0, 0, 0, 3, 5}, {0, 2, 0, 0, 0, 9, 11}};
        for (int p = 0; p < 4; p++) {
            for (int what = 0; what < 7; what++) {
                Check.is("pendulum " + p + " " + what, x.pendulum(p, what), due[p][what]);
            }
        }
        Check.is("empty text", Check.swings(x, ""), 0);
        Check.is("told behind it", x.count(0), 0);
        Check.is("length behind it", x.pendulum(0, 1), 2);
        Check.is("blanks", Check.swings(x, " \n \n"), 0);
        Check.is("three digits", Check.swings(x, "pendulum kick 002 090 000 099;"), 0);
        Check.is("length", x.pendulum(0, 1), 2);
    }

    private static void bad(String text, int what, int place) {
        PenSwings x = new PenSwings();
        Check.is("swings " + text, Check.swings(x, text), what);
        Check.is("fault of " + text, x.fault(), place);
        Check.is("refused " + text, x.count(6), 1);
        Check.is("bytes behind " + text, x.count(5), 0);
    }

    private static void faultOne() {
        bad("x", 1, 0);
        bad(";", 1, 0);
        bad("  7", 1, 2);
        bad("1234", 1, 0);
        bad("even", 1, 0);
        bad("pendulumeven 8 5 0 0;", 1, 0);
        bad("bendulum even 8 5 0 0;", 1, 0);
        bad("pendulun even 8 5 0 0;", 1, 0);
        bad("pendulum sick 8 5 0 0;", 1, 9);
        bad("pendulum kicks 8 5 0 0;", 1, 9);
        bad("part 1 1 1;", 1, 0);
        bad("car 1 1 1;", 1, 0);
        bad("pendulum;", 1, 8);
        bad("pendulum 8", 1, 9);
        bad("pendulum even -8", 1, 14);
        bad("pendulum even 8 5 0 0", 1, 21);
        bad("pendulum even 8 5 0 0  ", 1, 23);
        bad("pendulum even 8 5 0 0 0;", 1, 22);
        bad("pendulum", 1, 8);
        bad("cart 5 3;", 1, 8);
        bad("cart -5 3 3;", 1, 5);
        bad("cart 5 - - 3 3;", 1, 9);
        bad("cart 5 3 -;", 1, 10);
        bad("cart 5 3 -", 1, 10);
        bad("pennies 1 2 3 -4;", 1, 14);
        bad("pennies 1 2 3 4 5;", 1, 16);
        bad("cart 5\t3 3;", 1, 6);
        bad("cart 5 3 3;(", 1, 11);
        bad("Cart 5 3 3;", 1, 0);
        bad("cart 5 3 3;" + (char) 225, 1, 11);
        bad("cart 5 3 3;" + (char) 0, 1, 11);
        bad(";;", 1, 0);
    }

    private static void faultTwo() {
        bad("pendulum even 41 5 0 0;", 2, 14);
        bad("pendulum even 1 5 0 0;", 2, 14);
        bad("pendulum even 0008 5 0 0;", 2, 14);
        bad("pendulum even 8 91 0 0;", 2, 16);
        bad("pendulum even 8 5 100 0;", 2, 18);
        bad("pendulum even 8 5 0 100;", 2, 20);
        bad("cart 0000 1 1;", 2, 5);
        bad("cart 5 1 99999999999999999999;", 2, 9);
        bad("cart 5 1 -21;", 2, 10);
        bad("cart 5 21 x;", 2, 7);
        bad("pennies 10 0 0 0;", 2, 8);
        bad(PENDULUM + PENDULUM + PENDULUM + PENDULUM + "pendulum x", 2, 88);
        bad("cart 1 1 1;cart 1 1 1;cart 1 1 1;cart 1 1 1;cart", 2, 44);
    }

    private static void faultThree() {
        bad("pennies 0 0 0 0;  pennies", 3, 18);
        bad("pennies 0 0 0 0;" + PENDULUM + "pennies 1 1 1 1;", 3, 38);
    }

    private static void limits() {
        PenSwings x = new PenSwings();
        Check.is("four of each", Check.swings(x, PENDULUM + PENDULUM + PENDULUM + PENDULUM
            + "cart 0 20 -20;cart 999 -20 20;cart 1 0 -0;cart 2 1 1;pennies 9 9 9 9;"), 0);
        Check.is("pendulums", x.count(0), 4);
        Check.is("carts", x.count(1), 4);
        Check.is("edges", Check.swings(x, "pendulum bowl 40 90 99 99;pendulum kick 2 0 0 0;"), 0);
        Check.is("length", x.pendulum(0, 1), 40);
    }

    private static void whatStaysAndGoes() {
        PenSwings x = Check.told(PENDULUM + "cart 1 2 3;");
        x.keep();
        x.point(1, 2, 3);
        x.birthday(4);
        x.image();
        x.evening(1);
        Check.is("score", Check.score(x, "draw 3"), 0);
        x.set(0, 0, 5);
        Check.is("fault", Check.swings(x, "pendulum"), 1);
        Check.is("place", x.fault(), 8);
        int[] stays = {1, 1, 1, 1, 1, 0, 1};
        for (int what = 0; what < stays.length; what++) {
            Check.is("count " + what + " behind a fault", x.count(what), stays[what]);
        }
        Check.is("pennies stay", x.pendulum(0, 5), 5);
        Check.is("score stays", x.performed(0), 1);
        Check.is("evening stays", x.drawing(0), 0);
        Check.is("image stays", x.restore() ? 1 : 0, 1);
        Check.is("good", Check.swings(x, PENDULUM), 0);
        Check.is("no place", x.fault(), PenSwings.NONE);
        int[] gone = {1, 0, 0, 0, 0, 0, 1};
        for (int what = 0; what < gone.length; what++) {
            Check.is("count " + what + " anew", x.count(what), gone[what]);
        }
        Check.is("score gone", x.performed(0), 0);
        Check.noSuch("evening gone", () -> x.drawing(PenSwings.NONE));
        Check.is("image gone", x.restore() ? 1 : 0, 0);
    }

    private static void counts() {
        PenSwings x = new PenSwings();
        x.set(0, 0, 10);
        x.set(0, 1, -1);
        x.set(0, 2, 91);
        for (int i = 0; i < 10; i++) {
            x.keep();
        }
        x.point(-1, 0, 0);
        x.birthday(-1);
        x.birthday(365);
        Check.swings(x, "x");
        Check.score(x, "x");
        Check.swings(x, "");
        int[] due = {0, 0, 0, 0, 0, 0, 2, 3, 2, 1, 2};
        for (int what = 0; what < due.length; what++) {
            Check.is("count " + what, x.count(what), due[what]);
        }
        Check.noSuch("count -1", () -> x.count(-1));
        Check.noSuch("count 11", () -> x.count(11));
        Check.noSuch("count most", () -> x.count(Integer.MAX_VALUE));
    }
}
