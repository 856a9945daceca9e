/** Points, pennies that fit, chords, a cart that went by: part 4, promises 21 to 25. */
final class PointEdges {
    private static final String PART = "Part 4";
    private static final int[] FAR = {Integer.MIN_VALUE, Integer.MAX_VALUE};

    private PointEdges() {
    }

    static void all(Edges e) {
        points(e);
        penniesThatFit(e);
        nearest(e);
        chords(e);
        carts(e);
        wayOfCarts(e);
        pointAndUnpoint(e);
        fits(e);
        chord(e);
        cart(e);
    }

    private static void fits(String name, PenSwings x, int most, int tolerance, int... due) {
        int[] got = new int[4];
        for (int what = 0; what < 4; what++) {
            got[what] = x.fits(most, tolerance, what);
        }
        Check.row(name + ", fits " + most + " " + tolerance, got, due);
    }

    private static void chord(String name, PenSwings x, int a, int b, int... due) {
        Check.row(name + ", chord " + a + " " + b, new int[] {x.chord(a, b, 0), x.chord(a, b, 1)}, due);
    }

    private static void cart(String name, PenSwings x, int... due) {
        Check.row(name, new int[] {x.cart(0), x.cart(1), x.cart(2), x.cart(3)}, due);
    }

    /** A new object, its pen at rest in the middle, with points of three numbers each. */
    private static PenSwings still(int... points) {
        PenSwings x = new PenSwings();
        for (int i = 0; i < points.length; i += 3) {
            Check.is("a point", x.point(points[i], points[i + 1], points[i + 2]), i / 3 + 1);
        }
        return x;
    }

    private static void points(Edges e) {
        e.edge(PART, "POINTS (at most 6):", () -> {
            PenSwings x = still(0, 0, 1, 1, 2, 0, 2, 0, 4, 3, 8, 0, 4, 0, 16, 5, 32, 0);
            Check.is("points", x.count(3), 6);
            Check.is("all six count", x.fits(0, 0, 3), 63);
            Check.is("a seventh", x.point(6, 64, 0), PenSwings.NONE);
            Check.is("it does not count", x.fits(0, 0, 3), 63);
        });
        e.edge(PART, "at a TICK THE PEN was at a place along and across (-260 to 260 each).", () -> {
            int[][] right = {{0, -260, -260}, {9999, 260, 260}, {0, -260, 260}, {9999, 260, -260}};
            for (int[] r : right) {
                Check.is("off as far as that", still(r[0], r[1], r[2]).fits(0, 0, 3), 520);
            }
            int[][] wrong = {{0, -261, 0}, {0, 261, 0}, {0, 0, -261}, {0, 0, 261}, {-1, 0, 0}, {10000, 0, 0}};
            for (int[] w : wrong) {
                Check.is("not as told", new PenSwings().point(w[0], w[1], w[2]), PenSwings.NONE);
            }
        });
    }

    private static void penniesThatFit(Edges e) {
        e.edge(PART, "PENNIES THAT FIT: rows of four, each 0 to a MOST (0 to 5),", () -> {
            fits("no points", new PenSwings(), 0, 0, 1, 0, 0, 0);
            fits("no points", new PenSwings(), 1, 0, 16, 0, 0, 0);
            fits("no points", new PenSwings(), 5, 99, 1296, 0, 0, 0);
            // At the tick 12 a kick of a period of 2, 3, 4, 5 or 6 is at its size, one of 7 below 0.
            int[] row = {5000, 500, 50, 5};
            for (int p = 0; p < 4; p++) {
                PenSwings x = Check.told("pendulum kick 2 0 0 0;pendulum kick 2 0 0 0;pendulum kick 2 0 0 0;"
                    + "pendulum kick 2 0 0 0;");
                x.set(p, 2, 50);
                x.set(p, 0, 9);
                x.point(12, p < 2 ? -50 : 0, p < 2 ? 0 : -50);
                fits("by 5 of " + p, x, 5, 0, 216, row[p], row[p], 0);
                fits("by 4 of " + p, x, 4, 99, 0, PenSwings.NONE, 0, 100);
                fits("by none of " + p, x, 0, 99, 0, PenSwings.NONE, 0, 100);
                Check.is("its pennies are as they were", x.pendulum(p, 5), 9);
            }
            Check.illegal("MOST -1", () -> new PenSwings().fits(-1, 0, 0));
            Check.illegal("MOST 6", () -> new PenSwings().fits(6, 0, 0));
        });
        e.edge(PART, "by which (all else as it is, with CARTS) THE PEN is OFF each POINT by no more than a TOLERANCE "
            + "(0 to 99) (along and across together).", () -> {
                fits("just there", still(3, 0, 0), 0, 0, 1, 0, 0, 0);
                fits("off by 1", still(3, 0, -1), 0, 0, 0, PenSwings.NONE, 0, 1);
                fits("off by 99", still(3, 50, -49), 0, 99, 1, 0, 0, 99);
                fits("off by 99, within 98", still(3, 50, -49), 0, 98, 0, PenSwings.NONE, 0, 99);
                fits("off by 100", still(3, -50, -50), 0, 99, 0, PenSwings.NONE, 0, 100);
                fits("each off by 99", still(3, -50, -49, 4, 0, 99), 0, 99, 1, 0, 0, 198);
                fits("the last is off by 100", still(3, 0, 0, 4, 0, 100), 0, 99, 0, PenSwings.NONE, 0, 100);
                fits("the first is off by 100", still(3, 0, 100, 4, 0, 0), 0, 99, 0, PenSwings.NONE, 0, 100);
                PenSwings x = Check.told("cart 3 20 -20;cart 4 20 -20;");
                x.point(3, 20, -20);
                fits("a cart at its tick", x, 0, 0, 1, 0, 0, 0);
                x.point(2, 0, 0);
                fits("and not ahead of it", x, 0, 0, 1, 0, 0, 0);
                PenSwings y = Check.told("cart 3 20 -20;cart 4 20 -20;");
                y.point(2, 0, 0);
                y.point(3, 20, -20);
                y.point(4, 40, -40);
                y.point(2, 0, 0);
                fits("in any order", y, 0, 0, 1, 0, 0, 0);
                Check.illegal("TOLERANCE -1", () -> x.fits(0, -1, 0));
                Check.illegal("TOLERANCE 100", () -> x.fits(0, 100, 0));
            });
    }

    private static void nearest(Edges e) {
        e.edge(PART, "How many; the first as a row;", () -> {
            PenSwings x = Check.told("pendulum kick 2 10 0 0;pendulum kick 2 10 0 0;pendulum kick 2 10 0 0;"
                + "pendulum kick 2 10 0 0;");
            // At the tick 2 each is at 10 by 0 pennies, at -10 by 1.
            x.point(2, 0, 0);
            fits("one of each two", x, 1, 0, 4, 101, 101, 0);
            x.unpoint();
            x.point(2, -20, -20);
            fits("all four", x, 1, 0, 1, 1111, 1111, 0);
            x.unpoint();
            x.point(2, 20, 20);
            fits("none of them", x, 1, 0, 1, 0, 0, 0);
            x.unpoint();
            x.point(2, 1, 0);
            fits("no row", x, 1, 0, 0, PenSwings.NONE, 101, 1);
        });
        e.edge(PART, "THE NEAREST of all rows (whether they FIT or not): that by which it is OFF least, all POINTS "
            + "together, of like ones the first.", () -> {
                PenSwings x = Check.told("pendulum kick 2 10 0 0;");
                // By 0 pennies 10 at the tick 2 and -10 at 3, by 1 penny the other way: off by 0, 0, 60, or by 20, 20, 40.
                x.point(2, 10, 0);
                x.point(2, 10, 0);
                x.point(3, 50, 0);
                fits("another one fits", x, 1, 40, 8, 1000, 0, 60);
                fits("none fits", x, 1, 39, 0, PenSwings.NONE, 0, 60);
                PenSwings y = Check.told("pendulum kick 2 10 0 0;");
                y.point(2, 0, 0);
                fits("like ones", y, 1, 10, 16, 0, 0, 10);
                fits("like ones that do not fit", y, 1, 9, 0, PenSwings.NONE, 0, 10);
                y.unpoint();
                y.point(2, -1, 0);
                fits("the last ones are nearer by little", y, 1, 9, 8, 1000, 1000, 9);
                PenSwings z = Check.told("pendulum kick 2 10 0 0;pendulum kick 2 20 0 0;"
                    + "pendulum kick 2 30 0 0;pendulum kick 2 40 0 0;");
                // By 1010: 10 and 10 at the tick 2, -10 and -10 at 3; at 4 all rows are at 30 and 70.
                z.point(2, 10, 10);
                z.point(4, 30, 70);
                z.point(3, -12, -9);
                fits("all POINTS together", z, 1, 2, 0, PenSwings.NONE, 1010, 3);
                fits("all POINTS together", z, 1, 3, 1, 1010, 1010, 3);
                z.unpoint();
                z.unpoint();
                z.unpoint();
                // By 0101: 10 less 20 and 30 less 40 at the tick 2, the other way at 3.
                z.point(3, 10, 10);
                z.point(2, -10, -10);
                fits("in another order", z, 1, 0, 1, 101, 101, 0);
            });
    }

    private static void chords(Edges e) {
        e.edge(PART, "A CHORD of a and b (1 to 12 each):", () -> {
            PenSwings x = Check.told("pendulum even 40 0 0 0;pendulum even 2 0 0 0;pendulum even 3 0 0 0;pennies 7 0 0 0;");
            chord("12 to 1", x, 12, 1, 2, 81);
            PenSwings y = Check.told("pendulum even 3 0 0 0;pendulum even 2 0 0 0;pendulum even 40 0 0 0;pennies 0 0 7 0;");
            chord("1 to 12", y, 1, 12, 2, 18);
            chord("1 to 1", new PenSwings(), 1, 1, 0, 0);
            chord("12 to 12", new PenSwings(), 12, 12, 0, 0);
            for (int wrong : new int[] {0, 13, -1, FAR[0], FAR[1]}) {
                Check.illegal("a " + wrong, () -> x.chord(wrong, 1, 0));
                Check.illegal("b " + wrong, () -> x.chord(1, wrong, 0));
            }
        });
        e.edge(PART, "the fewest PENNIES moved (put on or taken off) by which PERIOD of 0 by b is PERIOD of 2 by a;", () -> {
            PenSwings x = Check.told("pendulum even 10 0 0 0;pendulum even 10 0 0 0;pendulum even 10 0 0 0;"
                + "pendulum even 10 0 0 0;pennies 0 9 9 9;");
            // As many pennies of both: each of the ten ways moves 9, put on 0 or taken off 2.
            chord("put on or taken off", x, 1, 1, 9, 0);
            chord("the same ratio", x, 10, 10, 9, 0);
            x.set(2, 0, 0);
            chord("as they are", x, 1, 1, 0, 0);
            x.set(0, 0, 9);
            x.set(2, 0, 9);
            chord("as they are, with all on", x, 12, 12, 0, 99);
            // 12 to 10, and 18 to 15: the latter is 1 and 4 off.
            chord("both taken off", x, 6, 5, 5, 85);
        });
        e.edge(PART, "of like ones the fewest PENNIES of 0, then of 2.", () -> {
            PenSwings x = Check.told("pendulum even 8 0 0 0;pendulum even 2 0 0 0;pendulum even 10 0 0 0;pennies 3 0 3 0;");
            // 11 and 11, 12 and 12, 13 and 13 all move two.
            chord("three like ones", x, 1, 1, 2, 31);
            x.set(0, 0, 2);
            x.set(2, 0, 9);
            chord("from far, all ways", x, 1, 1, 9, 20);
        });
        e.edge(PART, "None, if it can't be.", () -> {
            PenSwings x = new PenSwings();
            // LENGTHS of 2: 11 and 2 at most.
            chord("11 to 2", x, 11, 2, 9, 90);
            chord("2 to 11", x, 2, 11, 9, 9);
            chord("6 to 1 asks for 10 pennies", x, 6, 1, PenSwings.NONE, PenSwings.NONE);
            chord("1 to 6 asks for 10 pennies", x, 1, 6, PenSwings.NONE, PenSwings.NONE);
            chord("12 to 11 asks for 10 pennies", x, 12, 11, PenSwings.NONE, PenSwings.NONE);
            chord("11 to 10", x, 11, 10, 17, 98);
        });
    }

    private static void carts(Edges e) {
        e.edge(PART, "A CART THAT WENT BY: TICKS c (0 to 999) that FIT:", () -> {
            cart("all ticks", still(9999, -1, 0), 1000, 0, -1, 0);
            cart("all ticks, by a point at the last one", still(999, -1, 0), 1000, 0, -1, 0);
            cart("all but the last one", still(998, -1, 0), 999, 0, -1, 0);
            cart("the first one alone", still(0, -1, 0), 1, 0, -1, 0);
            cart("the last one alone", still(9999, -1, 0, 998, 0, 0), 1, 999, -1, 0);
            cart("behind the last one", still(9999, -1, 0, 999, 0, 0), 0, PenSwings.NONE, 0, 0);
        });
        e.edge(PART, "without the CARTS that were told THE PEN is at all POINTS ahead of c just where they are,", () -> {
            cart("a point at c is not ahead of it", still(5, 0, 0, 6, 1, 0), 1, 6, 1, 0);
            cart("off by 1 along ahead of it", still(5, 1, 0, 7, 2, 0), 0, PenSwings.NONE, 0, 0);
            cart("off by 1 across ahead of it", still(5, 0, 1, 7, 0, 2), 0, PenSwings.NONE, 0, 0);
            PenSwings x = Check.told("pendulum kick 4 50 0 0;cart 0 9 9;cart 6 3 3;");
            x.point(4, 50, 0);
            x.point(6, -47, 4);
            cart("those that were told count for nothing", x, 2, 5, 3, 4);
        });
        e.edge(PART, "and off all others (there is one at least) by one and the same way,", () -> {
            cart("no points", new PenSwings(), 0, PenSwings.NONE, 0, 0);
            cart("all where they are", still(5, 0, 0, 7, 0, 0), 0, PenSwings.NONE, 0, 0);
            cart("one way", still(5, 3, -4, 7, 3, -4), 6, 0, 3, -4);
            cart("two ways along", still(5, 3, -4, 7, 4, -4), 0, PenSwings.NONE, 0, 0);
            cart("two ways across", still(5, 3, -4, 7, 3, -5), 0, PenSwings.NONE, 0, 0);
            cart("one behind it is where it is", still(5, 3, -4, 7, 0, 0), 0, PenSwings.NONE, 0, 0);
            cart("one way behind one that is where it is", still(2, 0, 0, 7, 3, -4, 9, 3, -4), 5, 3, 3, -4);
            cart("one way behind two", still(2, 0, 0, 1, 0, 0, 7, 0, -4, 9, 0, -4, 8, 0, -4), 5, 3, 0, -4);
            cart("one way behind three", still(0, 0, 0, 2, 0, 0, 1, 0, 0, 7, 5, 0, 6, 5, 0), 4, 3, 5, 0);
            cart("two ways behind one that is where it is", still(2, 0, 0, 7, 3, -4, 9, 4, -4), 0, PenSwings.NONE, 0, 0);
            cart("two ways across behind two", still(2, 0, 0, 3, 0, 0, 7, 3, -4, 9, 3, -5), 0, PenSwings.NONE, 0, 0);
            cart("the last one is another one", still(2, 0, 0, 7, 3, -4, 8, 3, -4, 9, 3, 4), 0, PenSwings.NONE, 0, 0);
            cart("in any order", still(9, 3, -4, 2, 0, 0, 7, 3, -4, 4, 0, 0, 8, 3, -4, 1, 0, 0), 3, 5, 3, -4);
        });
    }

    private static void wayOfCarts(Edges e) {
        e.edge(PART, "not farther than 20 along, and 20 across,", () -> {
            cart("20 and 20", still(5, 20, 20), 6, 0, 20, 20);
            cart("-20 and -20", still(5, -20, -20), 6, 0, -20, -20);
            cart("21 along", still(5, 21, 0), 0, PenSwings.NONE, 0, 0);
            cart("-21 along", still(5, -21, 0), 0, PenSwings.NONE, 0, 0);
            cart("21 across", still(5, 0, 21), 0, PenSwings.NONE, 0, 0);
            cart("-21 across", still(5, 0, -21), 0, PenSwings.NONE, 0, 0);
            cart("21 along behind one", still(2, 0, 0, 5, 21, 0), 0, PenSwings.NONE, 0, 0);
            cart("21 across behind two", still(2, 0, 0, 3, 0, 0, 5, 0, 21), 0, PenSwings.NONE, 0, 0);
            cart("20 and -20 behind two", still(2, 0, 0, 3, 0, 0, 5, 20, -20), 2, 4, 20, -20);
        });
        e.edge(PART, "and not at all in neither (it is one).", () -> {
            cart("neither", still(5, 0, 0), 0, PenSwings.NONE, 0, 0);
            cart("along alone", still(5, 1, 0), 6, 0, 1, 0);
            cart("across alone", still(5, 0, -1), 6, 0, 0, -1);
        });
        e.edge(PART, "How many; the least; its way.", () -> {
            PenSwings x = Check.told("pendulum kick 4 50 0 0;pendulum even 2 0 0 0;pendulum kick 4 30 0 0;");
            x.point(8, 50, 30);
            x.point(14, -30, -50);
            cart("9 to 14", x, 6, 9, 20, -20);
            x.point(12, 50, 30);
            cart("13 and 14", x, 2, 13, 20, -20);
            x.point(13, 50, 30);
            cart("14 alone", x, 1, 14, 20, -20);
            x.point(14, -50, -30);
            cart("none", x, 0, PenSwings.NONE, 0, 0);
        });
    }

    private static void pointAndUnpoint(Edges e) {
        e.edge(21, "A POINT: how many there are.", () -> {
            PenSwings x = new PenSwings();
            for (int i = 1; i <= 6; i++) {
                Check.is("point " + i, x.point(9999, 260, -260), i);
                Check.is("points", x.count(3), i);
            }
        });
        e.edge(21, "NONE (STATUS 3): there are 6, it is not as told (the TICK, too).", () -> {
            int[][] wrong = {{-1, 0, 0}, {10000, 0, 0}, {FAR[0], 0, 0}, {FAR[1], 0, 0}, {0, -261, 0}, {0, 261, 0}, {0,
                FAR[0], 0},
                {0, FAR[1], 0}, {0, 0, -261}, {0, 0, 261}, {0, 0, FAR[0]}, {0, 0, FAR[1]}};
            for (int[] w : wrong) {
                PenSwings x = Seen.rich();
                Seen.counted("a wrong point", x, 3, () -> Check.is("point", x.point(w[0], w[1], w[2]), PenSwings.NONE));
            }
            PenSwings x = Seen.rich();
            for (int i = 3; i <= 6; i++) {
                Check.is("point " + i, x.point(i, i, i), i);
            }
            Seen.counted("a seventh", x, 3, () -> Check.is("point", x.point(0, 0, 0), PenSwings.NONE));
            Check.is("one is taken back", x.unpoint(), 5);
            Check.is("there is room again", x.point(0, 0, 0), 6);
        });
        e.edge(22, "The last POINT is taken back: how many are left.", () -> {
            PenSwings x = still(0, 0, 1, 1, 2, 0, 2, 0, 4, 3, 8, 0, 4, 0, 16, 5, 32, 0);
            int off = 63;
            for (int left = 5; left >= 0; left--) {
                Check.is("left", x.unpoint(), left);
                off -= 1 << left;
                Check.is("those that are left", x.fits(0, 0, 3), off);
            }
        });
        e.edge(22, "NONE: there are none.", () -> {
            PenSwings x = new PenSwings();
            Check.is("at first", x.unpoint(), PenSwings.NONE);
            Check.is("again", x.unpoint(), PenSwings.NONE);
            Check.is("points", x.count(3), 0);
            Check.row("it is none of STATUS", Seen.status(x), 0, 0, 0, 0, 0);
            Check.is("the first", x.point(1, 1, 1), 1);
            Check.is("taken back", x.unpoint(), 0);
            Check.is("none is left", x.unpoint(), PenSwings.NONE);
            Check.is("the first again", x.point(1, 1, 1), 1);
        });
    }

    private static void fits(Edges e) {
        e.edge(23, "PENNIES THAT FIT: how many (what 0), the first (1), THE NEAREST (2), as figures of a number (0's "
            + "highest; NONE: none), by how much THE NEAREST is OFF (3).", () -> {
                PenSwings x = Check.told("pendulum kick 2 10 0 0;pendulum kick 2 20 0 0;"
                    + "pendulum kick 2 30 0 0;pendulum kick 2 40 0 0;");
                // At the tick 12 all are at their sizes by 0 to 4 pennies, below 0 by 5.
                x.point(12, -10, 10);
                fits("5 of 1 and of 2", x, 5, 0, 5 * 5, 550, 550, 0);
                x.unpoint();
                x.point(12, 10, -10);
                fits("5 of 0 and of 3", x, 5, 0, 5 * 5, 5005, 5005, 0);
                x.unpoint();
                x.point(12, -30, -70);
                fits("5 of all", x, 5, 0, 1, 5555, 5555, 0);
                x.unpoint();
                x.point(12, 260, -260);
                fits("far off", x, 0, 99, 0, PenSwings.NONE, 0, 230 + 330);
            });
        e.edge(23, "NoSuchElementException: another what.", () -> {
            PenSwings x = Seen.rich();
            Seen.unchanged("no such what", x, () -> {
                for (int what : new int[] {-1, 4, FAR[0], FAR[1]}) {
                    Check.noSuch("fits " + what, () -> x.fits(0, 0, what));
                }
            });
        });
        e.edge(23, "IllegalArgumentException (behind that): MOST, TOLERANCE.", () -> {
            PenSwings x = Seen.rich();
            Seen.unchanged("no such most or tolerance", x, () -> {
                for (int wrong : new int[] {-1, 6, FAR[0], FAR[1]}) {
                    Check.illegal("MOST " + wrong, () -> x.fits(wrong, 0, 3));
                    Check.noSuch("MOST " + wrong + " behind what", () -> x.fits(wrong, 0, 4));
                }
                for (int wrong : new int[] {-1, 100, FAR[0], FAR[1]}) {
                    Check.illegal("TOLERANCE " + wrong, () -> x.fits(0, wrong, 0));
                    Check.noSuch("TOLERANCE " + wrong + " behind what", () -> x.fits(5, wrong, -1));
                }
            });
        });
    }

    private static void chord(Edges e) {
        e.edge(24, "A CHORD: the fewest PENNIES (what 0), 10 by PENNIES of 0 and those of 2 (1); NONE: none.", () -> {
            PenSwings x = Check.told("pendulum even 31 0 0 0;pendulum even 2 0 0 0;pendulum even 30 0 0 0;pennies 0 5 5 5;");
            chord("40 to 30", x, 4, 3, 14, 90);
            PenSwings y = Check.told("pendulum even 30 0 0 0;pendulum even 2 0 0 0;pendulum even 31 0 0 0;pennies 5 5 0 5;");
            chord("30 to 40", y, 3, 4, 14, 9);
            chord("no chord", y, 12, 1, PenSwings.NONE, PenSwings.NONE);
            Check.is("nothing is moved", y.pendulum(0, 5), 5);
        });
        e.edge(24, "NoSuchElementException: another what.", () -> {
            PenSwings x = new PenSwings();
            for (int what : new int[] {-1, 2, FAR[0], FAR[1]}) {
                Check.noSuch("chord " + what, () -> x.chord(1, 1, what));
            }
        });
        e.edge(24, "IllegalArgumentException (behind that): a, b.", () -> {
            PenSwings x = Seen.rich();
            Seen.unchanged("no such chord", x, () -> {
                for (int wrong : new int[] {0, 13, -1, FAR[0], FAR[1]}) {
                    Check.illegal("a " + wrong, () -> x.chord(wrong, 12, 1));
                    Check.illegal("b " + wrong, () -> x.chord(12, wrong, 1));
                    Check.noSuch("a " + wrong + " behind what", () -> x.chord(wrong, 1, 2));
                    Check.noSuch("b " + wrong + " behind what", () -> x.chord(1, wrong, -1));
                }
            });
        });
    }

    private static void cart(Edges e) {
        e.edge(25, "A CART THAT WENT BY: how many TICKS FIT (what 0), the least (1; NONE: none), its way along (2), "
            + "across (3; 0: none).", () -> {
            cart("one", still(998, 0, 0, 9999, -20, 20), 1, 999, -20, 20);
            cart("none", still(998, 0, 0, 9999, -20, 21), 0, PenSwings.NONE, 0, 0);
            PenSwings x = still(3, 5, 6);
            cart("found", x, 4, 0, 5, 6);
            x.unpoint();
            cart("not found any more", x, 0, PenSwings.NONE, 0, 0);
        });
        e.edge(25, "NoSuchElementException: another what.", () -> {
            PenSwings x = Seen.rich();
            Seen.unchanged("no such what", x, () -> {
                for (int what : new int[] {-1, 4, FAR[0], FAR[1]}) {
                    Check.noSuch("cart " + what, () -> x.cart(what));
                }
            });
        });
    }
}
