/** Pendulums, the pen, paper, the round: part 2, promises 9 to 16. */
final class PenEdges {
    private static final String PART = "Part 2";
    private static final int MIDDLE = 13;

    private PenEdges() {
    }

    static void all(Edges e) {
        ticks(e);
        dyingAway(e);
        kinds(e);
        pen(e);
        paper(e);
        theRound(e);
        pendulum(e);
        set(e);
        swing(e);
        penAsked(e);
        drawn(e);
        inCell(e);
        roundAndOff(e);
    }

    private static void row(PenSwings x, int p, int from, int... due) {
        for (int i = 0; i < due.length; i++) {
            Check.is("pendulum " + p + " at " + (from + i), x.swing(p, from + i), due[i]);
        }
    }

    private static void ticks(Edges e) {
        e.edge(PART, "A PENDULUM at a TICK t (0 to 9999): T being its PERIOD,", () -> {
            PenSwings x = Check.told("pendulum kick 2 9 0 0;");
            Check.is("the first tick", x.swing(0, 0), 9);
            Check.is("the last tick", x.swing(0, 9999), -9);
            Check.illegal("one ahead of it", () -> x.swing(0, -1));
            Check.illegal("one behind it", () -> x.swing(0, 10000));
        });
        e.edge(PART, "u is t and START, MOD T.", () -> {
            PenSwings x = Check.told("pendulum even 8 40 0 0;pendulum even 8 40 7 0;pendulum even 8 40 99 0;"
                + "pendulum even 40 90 99 0;pennies 0 0 0 9;");
            row(x, 0, 6, -40, -20, 0, 20);
            row(x, 1, 0, -20, 0, 20);
            // 99 is 3 of 8: 12 less than 16.
            row(x, 2, 0, 20, 0, -20);
            // 9999 and 99 are 206 times 49 and 4: 16 by 90 by 49.
            row(x, 3, 9995, 0, 7, 14, 22, 29);
            x.set(1, 1, 8);
            row(x, 1, 0, 0, 20);
            PenSwings y = Check.told("pendulum even 2 90 0 0;pendulum kick 2 90 99 0;");
            row(y, 1, 0, -90, 90, -90);
            row(y, 0, 0, 0, 0, 0);
        });
    }

    private static void dyingAway(Edges e) {
        e.edge(PART, "S is its SIZE, once for each T ticks that are gone by at t: by 100 less LOSS, by 100, cut down.", () -> {
            PenSwings x = Check.told("pendulum kick 4 10 0 50;pendulum kick 4 10 1 50;pendulum kick 2 90 0 1;"
                + "pendulum kick 2 1 0 1;");
            row(x, 0, 3, -10, 5, 5, -5, -5, 2, 2, -2, -2, 1, 1, -1, -1, 0, 0, 0, 0, 0);
            row(x, 1, 2, -10, 10, 5, -5, -5, 5, 2);
            // Of 90 and less, each time 1 goes and a part is cut: 1 less each time, down to 0.
            for (int gone = 0; gone <= 92; gone++) {
                Check.is("by 1 of 100, gone " + gone, x.swing(2, 2 * gone), gone < 90 ? 90 - gone : 0);
            }
            Check.is("at the last tick", x.swing(2, 9999), 0);
            row(x, 3, 0, 1, -1, 0, 0);
            PenSwings y = Check.told("pendulum kick 2 90 0 0;pendulum kick 2 90 0 99;"
                + "pendulum kick 40 90 0 99;pendulum kick 3 90 0 50;pennies 0 0 9 1;");
            Check.is("nothing is lost", y.swing(0, 9998), 90);
            row(y, 1, 0, 90, -90, 0, 0);
            Check.is("a long period, its last tick", y.swing(2, 48), -90);
            Check.is("a long period, gone", y.swing(2, 49), 0);
            row(y, 3, 0, 90, 90, -90, -90, 45, 45, -45, -45, 22);
            y.set(3, 2, 10);
            row(y, 3, 0, 10, 10, -10, -10, 5);
            y.set(3, 2, 0);
            row(y, 3, 0, 0, 0, 0);
            y.set(3, 2, 90);
            row(y, 3, 3, -90, 45);
            Check.is("told anew, by another loss", Check.swings(y, "pendulum kick 2 90 0 50;"
                + "pendulum kick 2 90 0 0;pendulum kick 2 90 0 2;pendulum kick 2 90 0 1;"), 0);
            row(y, 0, 1, -90, 45);
            row(y, 1, 1, -90, 90);
            row(y, 2, 1, -90, 88);
            for (int gone = 88; gone <= 93; gone++) {
                Check.is("the last one, gone " + gone, y.swing(3, 2 * gone), gone < 90 ? 90 - gone : 0);
                Check.is("the last but one, gone " + gone, y.swing(2, 2 * gone), 0);
            }
        });
    }

    private static void kinds(Edges e) {
        e.edge(PART, "Even: 4 u by S by T, if 4 u is no more than T;", () -> {
            PenSwings x = Check.told("pendulum even 8 40 0 0;pendulum even 9 90 0 0;pendulum even 4 90 0 0;");
            row(x, 0, 0, 0, 20, 40, 20);
            row(x, 1, 0, 0, 40, 80, 60);
            row(x, 2, 0, 0, 90, 0, -90, 0);
        });
        e.edge(PART, "else 2 T less 4 u by S by T, if 4 u is no more than 3 T;", () -> {
            PenSwings x = Check.told("pendulum even 8 40 0 0;pendulum even 9 90 0 0;pendulum even 2 90 0 0;"
                + "pendulum even 3 90 0 0;");
            row(x, 0, 3, 20, 0, -20, -40, -20);
            row(x, 1, 3, 60, 20, -20, -60, -80);
            row(x, 2, 0, 0, 0, 0);
            row(x, 3, 0, 0, 60, -60, 0);
        });
        e.edge(PART, "else 4 u less 4 T by S by T.", () -> {
            PenSwings x = Check.told("pendulum even 8 40 0 0;pendulum even 9 90 0 0;pendulum even 5 90 0 0;");
            row(x, 0, 6, -40, -20, 0);
            row(x, 1, 6, -60, -80, -40, 0);
            row(x, 2, 0, 0, 72, 36, -36, -72, 0);
        });
        e.edge(PART, "Bowl: with h being 2 u: 4 h by T less h by S by the square of T, if h is no more than T; else "
            + "the same with h less T, below 0.", () -> {
                PenSwings x = Check.told("pendulum bowl 4 80 0 0;pendulum bowl 5 90 0 0;"
                    + "pendulum bowl 2 90 0 0;pendulum bowl 40 90 0 0;pennies 0 0 0 9;");
                row(x, 0, 0, 0, 80, 0, -80, 0);
                // 24 by 90 and 16 by 90, by 25.
                row(x, 1, 0, 0, 86, 57, -57, -86, 0);
                row(x, 2, 0, 0, 0, 0);
                // h is 48 and 50 of 49: 4 by 48 by 1 by 90, and the same with 1, by 2401.
                row(x, 3, 24, 7, -7);
            });
        e.edge(PART, "Kick: S, if 2 u is less than T; else S below 0.", () -> {
            PenSwings x = Check.told("pendulum kick 4 9 0 0;pendulum kick 5 9 0 0;pendulum kick 2 9 0 0;"
                + "pendulum kick 3 9 0 0;");
            row(x, 0, 0, 9, 9, -9, -9, 9);
            row(x, 1, 0, 9, 9, 9, -9, -9, 9);
            row(x, 2, 0, 9, -9, 9);
            row(x, 3, 0, 9, 9, -9, 9);
        });
        e.edge(PART, "(All cut down to 0, products first.)", () -> {
            PenSwings x = Check.told("pendulum even 10 7 0 0;pendulum even 9 1 0 0;pendulum bowl 5 77 0 0;"
                + "pendulum bowl 7 1 0 0;");
            row(x, 0, 0, 0, 2, 5, 5, 2, 0, -2, -5, -5, -2);
            row(x, 1, 0, 0, 0, 0, 0, 0, 0, 0, 0, 0);
            row(x, 2, 0, 0, 73, 49, -49, -73);
            row(x, 3, 0, 0, 0, 0, 0, 0, 0, 0);
        });
    }

    private static void pen(Edges e) {
        e.edge(PART, "THE PEN is along at 0 and 1 together, across at 2 and 3 together, and as CARTS up to then have "
            + "moved it.", () -> {
            PenSwings x = Check.told("pendulum kick 2 90 0 0;pendulum kick 2 89 0 0;pendulum kick 2 70 0 0;"
                + "pendulum kick 2 60 1 0;cart 5 1 -2;cart 5 2 -4;cart 6 4 -8;");
            int[] along = {179, -179, 179, -179, 179, -176, 186, -172};
            int[] across = {10, -10, 10, -10, 10, -16, -4, -24};
            for (int tick = 0; tick < along.length; tick++) {
                Check.is("along at " + tick, x.pen(tick, 0), along[tick]);
                Check.is("across at " + tick, x.pen(tick, 1), across[tick]);
            }
        });
    }

    private static int cell(int column, int line) {
        return 27 * line + column;
    }

    private static void paper(Edges e) {
        e.edge(PART, "PAPER has 27 by 27 CELLS of 20 by 20: THE PEN is in the CELL of 27 by across and 260, by 20, "
            + "and along and 260, by 20, each cut down.", () -> {
                corners();
                // Along, and across: -1, 0, 19, 20, then -21, -20, -1, 0.
                int[] due = {12, 13, 13, 14};
                PenSwings x = Check.told("cart 0 -1 -1;cart 1 1 1;cart 2 19 19;cart 3 1 1;");
                PenSwings y = Check.told("cart 0 -20 0;cart 0 -1 0;cart 1 1 0;cart 2 20 0;");
                PenSwings z = Check.told("cart 0 0 -20;cart 0 0 -1;cart 1 0 1;cart 2 0 20;");
                for (int tick = 0; tick < 4; tick++) {
                    Check.is("both at " + tick, x.inCell(cell(due[tick], due[tick]), tick, tick), tick);
                }
                Check.is("-21 along", y.inCell(cell(11, MIDDLE), 0, 0), 0);
                Check.is("-20 along", y.inCell(cell(12, MIDDLE), 1, 1), 1);
                Check.is("-21 across", z.inCell(cell(MIDDLE, 11), 0, 0), 0);
                Check.is("-20 across", z.inCell(cell(MIDDLE, 12), 1, 1), 1);
            });
        e.edge(PART, "DRAWN from a TICK to another one: all CELLS in which it is then.", () -> {
            PenSwings x = Check.told("cart 1 20 0;cart 2 20 0;cart 3 20 0;cart 4 -20 0;");
            Check.is("both ends, too", x.drawn(0, 3), 4);
            Check.is("without the first", x.drawn(1, 3), 3);
            Check.is("without the last", x.drawn(0, 2), 3);
            Check.is("one tick", x.drawn(2, 2), 1);
            Check.is("one cell twice", x.drawn(2, 4), 2);
        });
    }

    private static void corners() {
        String far = "pendulum kick 2 90 0 0;pendulum kick 2 90 0 0;pendulum kick 2 90 0 0;pendulum kick 2 90 0 0;";
        int[] due = {cell(26, 26), cell(0, 0), cell(26, 0), cell(0, 26)};
        String[] ways = {" 20 20;", " -20 -20;", " 20 -20;", " -20 20;"};
        for (int i = 0; i < 4; i++) {
            String cart = "cart 0" + ways[i];
            PenSwings x = Check.told(far + cart + cart + cart + cart);
            x.set(0, 1, ways[i].startsWith(" -") ? 1 : 0);
            x.set(1, 1, ways[i].startsWith(" -") ? 1 : 0);
            x.set(2, 1, ways[i].endsWith(" -20;") ? 1 : 0);
            x.set(3, 1, ways[i].endsWith(" -20;") ? 1 : 0);
            Check.is("along in corner " + i, Math.abs(x.pen(0, 0)), 260);
            Check.is("across in corner " + i, Math.abs(x.pen(0, 1)), 260);
            Check.is("corner " + i, x.inCell(due[i], 0, 0), 0);
            Check.is("drawn in corner " + i, x.drawn(0, 0), 1);
        }
    }

    private static void theRound(Edges e) {
        e.edge(PART, "THE ROUND: the least number of TICKS (1 or more) that all PERIODS of PENDULUMS of a SIZE above "
            + "0 divide.", () -> {
            PenSwings x = Check.told("pendulum even 40 0 0 0;pendulum even 39 0 0 0;pendulum even 36 0 0 0;"
                + "pendulum even 36 0 0 0;");
            Check.is("none of a size above 0", x.round(), 1);
            x.set(2, 2, 1);
            Check.is("one of size 1", x.round(), 36);
            x.set(3, 2, 90);
            Check.is("two of one period", x.round(), 36);
            x.set(0, 2, 1);
            Check.is("40 and 36", x.round(), 360);
            x.set(1, 2, 1);
            Check.is("40, 39 and 36", x.round(), 360 * 13);
            x.set(0, 0, 9);
            x.set(1, 0, 8);
            x.set(2, 0, 9);
            x.set(3, 0, 7);
            Check.is("49, 47, 45 and 43", x.round(), 49 * 47 * 45 * 43);
            Check.is("of LENGTH 2", Check.told("pendulum even 2 1 0 0;").round(), 2);
        });
        e.edge(PART, "OFF: how far THE PEN at the TICK that it is (which may be any) is from that at TICK 0, along "
            + "and across together, without CARTS.", () -> {
                PenSwings x = Check.told("pendulum kick 2 40 0 50;pendulum even 2 0 0 0;pendulum kick 2 30 1 50;cart 1 20 20;");
                // 40 to 20 along, -30 to -15 across.
                Check.is("both ways count", x.off(), 35);
                x.set(0, 2, 0);
                x.set(2, 2, 0);
                Check.is("none of a size above 0, and a cart at the TICK 1", x.off(), 0);
                PenSwings y = Check.told("pendulum kick 40 90 0 99;pendulum kick 39 9 0 0;"
                    + "pendulum kick 37 9 0 0;pendulum kick 29 80 0 1;");
                Check.is("a round beyond all TICKS", y.round(), 40 * 39 * 37 * 29);
                Check.is("off by then", y.off(), 90 + 80);
                PenSwings z = Check.told("pendulum kick 40 90 99 0;pendulum kick 39 9 99 0;"
                    + "pendulum kick 37 9 99 0;pendulum kick 31 9 99 0;");
                Check.is("not off at all", z.off(), 0);
            });
    }

    private static final int[] NO_PENDULUMS = {-1, 4, 5, Integer.MIN_VALUE, Integer.MAX_VALUE};

    private static void pendulum(Edges e) {
        e.edge(9, "Of a PENDULUM (0 to 3): 0 KIND, 1 LENGTH, 2 SIZE, 3 START, 4 LOSS, 5 PENNIES, 6 PERIOD.", () -> {
            PenSwings x = Check.told("pendulum kick 3 4 5 6;pendulum even 2 0 0 0;pendulum even 2 0 0 0;"
                + "pendulum bowl 40 90 99 98;pennies 7 0 0 9;");
            int[] first = {2, 3, 4, 5, 6, 7, 10};
            int[] last = {1, 40, 90, 99, 98, 9, 49};
            for (int what = 0; what < 7; what++) {
                Check.is("the first, " + what, x.pendulum(0, what), first[what]);
                Check.is("the last, " + what, x.pendulum(3, what), last[what]);
            }
        });
        e.edge(9, "NoSuchElementException: no such PENDULUM (as everywhere), what.", () -> {
            PenSwings x = Seen.rich();
            Seen.unchanged("no such pendulum", x, () -> {
                for (int p : NO_PENDULUMS) {
                    Check.noSuch("pendulum " + p, () -> x.pendulum(p, 0));
                    Check.noSuch("set " + p, () -> x.set(p, 0, 0));
                    Check.noSuch("swing " + p, () -> x.swing(p, 0));
                }
                for (int what : new int[] {-1, 7, Integer.MIN_VALUE, Integer.MAX_VALUE}) {
                    Check.noSuch("what " + what, () -> x.pendulum(3, what));
                }
            });
        });
    }

    private static void set(Edges e) {
        int[] most = {9, 99, 90};
        e.edge(10, "PENNIES (what 0), START (1), SIZE (2) of a PENDULUM are set: what it was.", () -> {
            PenSwings x = new PenSwings();
            int[] shown = {5, 3, 2};
            for (int p = 0; p < 4; p++) {
                for (int what = 0; what < 3; what++) {
                    Check.is("to the most, " + what, x.set(p, what, most[what]), 0);
                    Check.is("it is so, " + what, x.pendulum(p, shown[what]), most[what]);
                    Check.is("to the same, " + what, x.set(p, what, most[what]), most[what]);
                    Check.is("to 0, " + what, x.set(p, what, 0), most[what]);
                    Check.is("it is 0, " + what, x.pendulum(p, shown[what]), 0);
                    Check.is("to one less, " + what, x.set(p, what, most[what] - 1 - p), 0);
                }
            }
            for (int p = 0; p < 4; p++) {
                Check.row("each its own, " + p, new int[] {x.pendulum(p, 5), x.pendulum(p, 3), x.pendulum(p, 2)},
                    8 - p, 98 - p, 89 - p);
            }
        });
        e.edge(10, "NONE (STATUS 1): it is not as told.", () -> {
            for (int what = 0; what < 3; what++) {
                int asked = what;
                for (int v : new int[] {-1, most[what] + 1, Integer.MIN_VALUE, Integer.MAX_VALUE}) {
                    PenSwings x = Seen.rich();
                    Seen.counted("set " + what + " to " + v, x, 1, () -> Check.is("set", x.set(3, asked, v), PenSwings.NONE));
                }
            }
        });
        e.edge(10, "NoSuchElementException (ahead): also another what.", () -> {
            PenSwings x = Seen.rich();
            Seen.unchanged("no such what", x, () -> {
                for (int what : new int[] {-1, 3, Integer.MIN_VALUE, Integer.MAX_VALUE}) {
                    Check.noSuch("set " + what, () -> x.set(0, what, 0));
                    Check.noSuch("set " + what + ", ahead of its value", () -> x.set(0, what, 100));
                }
                for (int p : NO_PENDULUMS) {
                    Check.noSuch("set of " + p + ", ahead of its value", () -> x.set(p, 0, -1));
                }
            });
        });
    }

    private static final int[] NO_TICKS = {-1, 10000, Integer.MIN_VALUE, Integer.MAX_VALUE};

    private static void swing(Edges e) {
        e.edge(11, "Where a PENDULUM is at a TICK.", () -> {
            PenSwings x = Check.told("pendulum kick 2 1 0 0;pendulum kick 2 2 0 0;pendulum kick 2 3 0 0;"
                + "pendulum kick 2 4 0 0;cart 0 9 9;");
            for (int p = 0; p < 4; p++) {
                Check.is("pendulum " + p + " at 0", x.swing(p, 0), p + 1);
                Check.is("pendulum " + p + " at 9999", x.swing(p, 9999), -p - 1);
            }
        });
        e.edge(11, "IllegalArgumentException (behind NoSuchElementException): it is no TICK (as everywhere).", () -> {
            PenSwings x = Seen.rich();
            Seen.unchanged("no tick", x, () -> {
                for (int tick : NO_TICKS) {
                    Check.illegal("swing at " + tick, () -> x.swing(0, tick));
                    Check.illegal("pen at " + tick, () -> x.pen(tick, 0));
                    Check.illegal("drawn to " + tick, () -> x.drawn(0, tick));
                    Check.illegal("drawn from " + tick, () -> x.drawn(tick, 9999));
                    Check.illegal("in a cell from " + tick, () -> x.inCell(0, tick, tick));
                    Check.illegal("laid together from " + tick, () -> x.laid(0, 1, tick, tick, 0));
                    Check.noSuch("swing of 4 at " + tick, () -> x.swing(4, tick));
                    Check.noSuch("swing of -1 at " + tick, () -> x.swing(-1, tick));
                }
            });
        });
    }

    private static void penAsked(Edges e) {
        e.edge(12, "THE PEN at a TICK: along (axis 0), across (1).", () -> {
            PenSwings x = Check.told("cart 0 3 -4;cart 999 5 6;");
            Check.row("at both ends", new int[] {x.pen(0, 0), x.pen(0, 1), x.pen(9999, 0), x.pen(9999, 1)}, 3, -4, 8, 2);
        });
        e.edge(12, "NoSuchElementException (ahead): another axis.", () -> {
            PenSwings x = new PenSwings();
            for (int axis : new int[] {-1, 2, Integer.MIN_VALUE, Integer.MAX_VALUE}) {
                Check.noSuch("axis " + axis, () -> x.pen(0, axis));
                Check.noSuch("axis " + axis + ", ahead of its tick", () -> x.pen(-1, axis));
                Check.noSuch("axis " + axis + ", ahead of its tick", () -> x.pen(10000, axis));
            }
        });
    }

    private static void drawn(Edges e) {
        e.edge(13, "How many CELLS are DRAWN.", () -> {
            Check.is("one at least", new PenSwings().drawn(9999, 9999), 1);
            PenSwings x = Check.told("pendulum kick 2 90 0 0;cart 999 20 20;");
            Check.is("ahead of the cart", x.drawn(0, 998), 2);
            Check.is("the 1000th tick, too", x.drawn(0, 999), 3);
            Check.is("asked again", x.drawn(0, 999), 3);
            Check.is("none of those ahead", x.drawn(1000, 1999), 2);
        });
        e.edge(13, "IllegalArgumentException: no TICKS, the second one below the first, or more than 999 behind it "
            + "(as everywhere).", () -> {
            PenSwings x = Seen.rich();
            Seen.unchanged("no such ticks", x, () -> {
                int[][] wrong = {{-1, 0}, {-1, -1}, {9999, 10000}, {10000, 10000}, {1, 0}, {9999, 0}, {0, 1000}, {9, 1009},
                    {0, 9999},
                    {8999, 9999}, {Integer.MIN_VALUE, Integer.MAX_VALUE}, {Integer.MAX_VALUE, Integer.MIN_VALUE}};
                for (int[] w : wrong) {
                    Check.illegal("drawn " + w[0] + " " + w[1], () -> x.drawn(w[0], w[1]));
                    Check.illegal("inCell " + w[0] + " " + w[1], () -> x.inCell(0, w[0], w[1]));
                    Check.illegal("laid " + w[0] + " " + w[1], () -> x.laid(0, 0, w[0], w[1], 0));
                }
            });
            PenSwings y = new PenSwings();
            y.keep();
            for (int[] right : new int[][] {{0, 0}, {0, 999}, {9000, 9999}, {9999, 9999}}) {
                Check.is("drawn " + right[0], y.drawn(right[0], right[1]), 1);
                Check.is("inCell " + right[0], y.inCell(cell(MIDDLE, MIDDLE), right[0], right[1]), right[0]);
                Check.is("laid " + right[0], y.laid(0, 0, right[0], right[1], 0), 1);
            }
        });
    }

    private static void inCell(Edges e) {
        e.edge(14, "The first TICK from one on to another one in which THE PEN is in a CELL;", () -> {
            PenSwings x = Check.told("cart 5 20 0;cart 7 -20 0;cart 9 20 0;");
            int right = cell(MIDDLE + 1, MIDDLE);
            Check.is("within", x.inCell(right, 0, 20), 5);
            Check.is("at the first", x.inCell(right, 5, 20), 5);
            Check.is("at the last", x.inCell(right, 0, 5), 5);
            Check.is("at the one", x.inCell(right, 6, 6), 6);
            Check.is("the next time", x.inCell(right, 7, 9), 9);
            Check.is("the last tick", x.inCell(right, 9999, 9999), 9999);
        });
        e.edge(14, "NONE: none.", () -> {
            PenSwings x = Check.told("cart 5 20 0;cart 7 -20 0;cart 9 20 0;");
            int right = cell(MIDDLE + 1, MIDDLE);
            Check.is("one ahead of it", x.inCell(right, 0, 4), PenSwings.NONE);
            Check.is("between", x.inCell(right, 7, 8), PenSwings.NONE);
            Check.is("the first cell", x.inCell(0, 0, 999), PenSwings.NONE);
            Check.is("the last cell", x.inCell(728, 9000, 9999), PenSwings.NONE);
        });
        e.edge(14, "NoSuchElementException (ahead): no such CELL.", () -> {
            PenSwings x = new PenSwings();
            for (int cell : new int[] {-1, 729, Integer.MIN_VALUE, Integer.MAX_VALUE}) {
                Check.noSuch("cell " + cell, () -> x.inCell(cell, 0, 0));
                Check.noSuch("cell " + cell + ", ahead of its ticks", () -> x.inCell(cell, 5, 4));
                Check.noSuch("cell " + cell + ", ahead of its ticks", () -> x.inCell(cell, -1, 10000));
            }
        });
    }

    private static void roundAndOff(Edges e) {
        e.edge(15, "THE ROUND.", () -> {
            Check.is("nothing told", new PenSwings().round(), 1);
            PenSwings x = Check.told("pendulum even 7 1 0 0;pendulum even 2 0 0 0;");
            Check.is("an untold or silent one counts for nothing", x.round(), 7);
            x.set(3, 2, 1);
            Check.is("an untold one that is set, counts", x.round(), 14);
        });
        e.edge(16, "OFF.", () -> {
            Check.is("nothing told", new PenSwings().off(), 0);
            PenSwings x = Check.told("pendulum kick 2 90 0 99;pendulum kick 2 90 0 99;"
                + "pendulum kick 2 90 1 99;pendulum kick 2 90 1 99;");
            Check.is("as far as can be", x.off(), 360);
        });
    }
}
