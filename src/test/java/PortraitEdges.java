/** Portraits, which are alike, their kinds, two laid together, images: part 3, promises 17 to 20, 29, 32, 33. */
final class PortraitEdges {
    private static final String PART = "Part 3";
    private static final String FOUR = "pendulum kick 6 10 0 0;pendulum kick 4 20 0 0;pendulum kick 6 30 0 0;"
        + "pendulum kick 4 40 0 0;";
    private static final int[] NO_PORTRAITS = {-1, 3, 4, 8, Integer.MIN_VALUE, Integer.MAX_VALUE};

    private PortraitEdges() {
    }

    static void all(Edges e) {
        kept(e);
        times(e);
        pairs(e);
        turning(e);
        mirrors(e);
        silence(e);
        kindsOfPortraits(e);
        keepAndTake(e);
        alikeAndKinds(e);
        laid(e);
        images(e);
    }

    /** A row of values for the four pendulums: PENNIES 0, STARTS 1, SIZES 2. */
    private static void set(PenSwings x, int what, int... values) {
        for (int p = 0; p < 4; p++) {
            Check.is("as told", x.set(p, what, values[p]) >= 0 ? 1 : 0, 1);
        }
    }

    private static int keepWith(PenSwings x, int what, int... values) {
        set(x, what, values);
        return x.keep();
    }

    private static void alike(String name, PenSwings x, int first, int second, int due) {
        Check.is(name, x.alike(first, second), due);
        Check.is(name + ", the other way", x.alike(second, first), due);
    }

    private static void kept(Edges e) {
        e.edge(PART, "A PORTRAIT (at most 8) keeps PENNIES, STARTS, SIZES as they are.", () -> {
            PenSwings x = Check.told(FOUR);
            for (int i = 0; i < 8; i++) {
                set(x, 0, i, 9 - i, i, 9);
                set(x, 1, 99 - i, i, 0, 99);
                set(x, 2, 90 - i, i, 0, 90);
                Check.is("keep", x.keep(), i);
            }
            Check.is("a ninth", x.keep(), PenSwings.NONE);
            for (int i = 7; i >= 0; i--) {
                x.take(i);
                for (int p = 0; p < 4; p++) {
                    int[] due = {new int[] {i, 9 - i, i, 9}[p], new int[] {99 - i, i, 0, 99}[p], new int[] {90 - i, i, 0,
                        90}[p]};
                    Check.row("portrait " + i + " of " + p, new int[] {x.pendulum(p, 5), x.pendulum(p, 3), x.pendulum(p,
                        2)}, due);
                }
            }
        });
    }

    private static void times(Edges e) {
        e.edge(PART, "Two are ALIKE, if there are a time (0 to THE ROUND of the second one, less 1), a turning and a "
            + "ratio", () -> {
            PenSwings x = Check.told("pendulum even 5 10 0 0;pendulum bowl 7 10 0 0;pendulum kick 9 10 0 0;"
                + "pendulum even 2 0 0 0;");
            x.keep();
            alike("the time 0", x, 0, 0, 1);
            // THE ROUND is 315: behind 314 ticks all STARTS are one less.
            alike("the time 314", x, 0, keepWith(x, 1, 4, 6, 8, 0), 1);
            alike("the time 1", x, 0, keepWith(x, 1, 1, 1, 1, 0), 1);
            alike("the time 157", x, 0, keepWith(x, 1, 2, 3, 4, 0), 1);
            PenSwings y = Check.told("pendulum kick 2 10 0 0;");
            y.keep();
            alike("the time 1 of 2", y, 0, keepWith(y, 1, 1, 0, 0, 0), 1);
        });
        e.edge(PART, "by which PENDULUMS of a SIZE above 0 of the first one become those of the second one,", () -> {
            PenSwings x = Check.told("pendulum even 5 10 0 0;pendulum bowl 7 0 0 0;pendulum kick 9 20 0 0;");
            x.keep();
            set(x, 0, 0, 9, 0, 3);
            int other = keepWith(x, 1, 0, 17, 0, 99);
            alike("those of SIZE 0 count for nothing", x, 0, other, 1);
            alike("one of SIZE 1 counts", x, 0, keepWith(x, 2, 10, 1, 20, 0), 0);
            alike("an untold one that is set, counts", x, 0, keepWith(x, 2, 10, 0, 20, 1), 0);
            PenSwings y = Check.told("pendulum kick 9 10 0 0;pendulum kick 3 10 0 0;pendulum kick 9 20 0 0;"
                + "pendulum kick 3 20 0 0;");
            y.keep();
            alike("all four, at the time 1", y, 0, keepWith(y, 1, 1, 1, 1, 1), 1);
            set(y, 1, 0, 0, 0, 0);
            alike("two of them, at the time 0", y, keepWith(y, 2, 10, 0, 20, 0), keepWith(y, 2, 20, 0, 40, 0), 1);
            PenSwings z = Check.told("pendulum kick 6 10 0 0;pendulum kick 5 0 0 0;pendulum kick 4 10 0 0;");
            z.keep();
            alike("one of SIZE 0 and an odd PERIOD hinders no mirror", z, 0, keepWith(z, 1, 3, 0, 0, 0), 1);
            PenSwings w = Check.told("pendulum kick 6 1 0 0;pendulum kick 4 1 0 0;pendulum kick 6 1 0 0;"
                + "pendulum kick 4 1 0 0;");
            w.keep();
            alike("the START of one of SIZE 1 counts", w, 0, keepWith(w, 1, 1, 0, 0, 0), 0);
            alike("and that of the last one", w, 0, keepWith(w, 1, 0, 0, 0, 1), 0);
        });
        e.edge(PART, "START and the time is as its START, MOD PERIOD;", () -> {
            PenSwings x = Check.told("pendulum even 9 10 99 0;pendulum even 3 20 99 0;");
            x.keep();
            alike("99 is 0 of 9 and of 3", x, 0, keepWith(x, 1, 0, 0, 0, 0), 1);
            alike("98 and 98", x, 0, keepWith(x, 1, 98, 98, 0, 0), 1);
            alike("5 and 2", x, 0, keepWith(x, 1, 5, 2, 0, 0), 1);
            alike("8 and 5", x, 0, keepWith(x, 1, 8, 5, 0, 0), 1);
            // A time that is 5 MOD 9 is 2 MOD 3, and none is 5 MOD 9 and 0 MOD 3.
            alike("5 and 0", x, 0, keepWith(x, 1, 5, 0, 0, 0), 0);
            alike("0 and 1", x, 0, keepWith(x, 1, 0, 1, 0, 0), 0);
            PenSwings y = Check.told("pendulum even 9 10 4 0;pendulum even 3 20 2 0;");
            y.keep();
            alike("4 and 2, 2 later", y, 0, keepWith(y, 1, 6, 1, 0, 0), 1);
            alike("4 and 2, 5 later", y, 0, keepWith(y, 1, 0, 1, 0, 0), 1);
            alike("4 and 2, not at one time", y, 0, keepWith(y, 1, 6, 2, 0, 0), 0);
        });
    }

    private static void pairs(Edges e) {
        e.edge(PART, "each another one:", () -> {
            PenSwings x = Check.told("pendulum kick 6 10 0 0;pendulum kick 6 10 0 0;pendulum kick 6 10 0 0;"
                + "pendulum kick 6 0 0 0;");
            x.keep();
            alike("two do not become one", x, 0, keepWith(x, 2, 10, 0, 10, 0), 0);
            alike("one does not become two", x, 1, keepWith(x, 2, 10, 0, 10, 10), 0);
            alike("two and one are one and two, turned", x, 0, 2, 1);
            alike("one of two is left", x, 1, keepWith(x, 2, 0, 0, 10, 0), 0);
            alike("two of one side are left", x, 1, keepWith(x, 2, 10, 10, 0, 0), 0);
        });
        e.edge(PART, "of one KIND and PERIOD;", () -> {
            PenSwings x = Check.told("pendulum even 8 10 0 0;pendulum even 6 0 0 0;pendulum kick 8 0 0 0;"
                + "pendulum bowl 8 0 0 0;");
            x.keep();
            alike("another period", x, 0, keepWith(x, 2, 0, 10, 0, 0), 0);
            x.set(1, 0, 2);
            alike("LENGTH and PENNIES, the same period", x, 0, x.keep(), 1);
            x.set(1, 0, 3);
            alike("one penny too many", x, 0, x.keep(), 0);
            alike("kick", x, 0, keepWith(x, 2, 0, 0, 10, 0), 0);
            alike("bowl", x, 0, keepWith(x, 2, 0, 0, 0, 10), 0);
        });
        e.edge(PART, "SIZES all in that one ratio;", () -> {
            PenSwings x = Check.told(FOUR);
            set(x, 2, 1, 2, 3, 4);
            x.keep();
            alike("as far as they go", x, 0, keepWith(x, 2, 22, 44, 66, 88), 1);
            alike("one more", x, 0, keepWith(x, 2, 22, 44, 66, 89), 0);
            alike("one less", x, 0, keepWith(x, 2, 21, 44, 66, 88), 0);
            alike("two ratios", x, 0, keepWith(x, 2, 1, 2, 6, 8), 0);
            PenSwings y = Check.told("pendulum even 5 90 0 0;pendulum bowl 5 89 0 0;");
            y.keep();
            alike("one alone is in any ratio", y, keepWith(y, 2, 90, 0, 0, 0), keepWith(y, 2, 1, 0, 0, 0), 1);
            alike("90 and 89 is no ratio of 1", y, 0, keepWith(y, 2, 1, 1, 0, 0), 0);
        });
    }

    private static void turning(Edges e) {
        e.edge(PART, "0 and 1 become 0 and 1, 2 and 3 become 2 and 3 in any order, or, turned, 2 and 3 become 0 and 1 "
            + "and the other way;", () -> {
            PenSwings x = Check.told("pendulum even 6 10 0 0;pendulum even 6 20 0 0;pendulum even 6 30 0 0;"
                + "pendulum even 6 40 0 0;");
            x.keep();
            int[][] right = {{20, 10, 30, 40}, {10, 20, 40, 30}, {20, 10, 40, 30}, {30, 40, 10, 20}, {40, 30, 10, 20},
                {30, 40, 20, 10}, {40, 30, 20, 10}};
            for (int[] sizes : right) {
                alike("in the order " + sizes[0] + sizes[1] + sizes[2] + sizes[3], x, 0, keepWith(x, 2, sizes), 1);
            }
            PenSwings y = Check.told("pendulum even 6 10 0 0;pendulum even 6 20 0 0;pendulum even 6 30 0 0;"
                + "pendulum even 6 40 0 0;");
            y.keep();
            int[][] wrong = {{10, 30, 20, 40}, {10, 40, 20, 30}, {30, 20, 10, 40}, {40, 20, 30, 10}, {20, 30, 40, 10}, {30,
                10, 40, 20}};
            for (int[] sizes : wrong) {
                alike("not in the order " + sizes[0] + sizes[1] + sizes[2] + sizes[3], y, 0, keepWith(y, 2, sizes), 0);
            }
            PenSwings z = Check.told("pendulum even 6 10 0 0;pendulum even 6 0 0 0;pendulum even 6 0 0 0;"
                + "pendulum even 6 0 0 0;");
            z.keep();
            alike("one alone, in its other place", z, 0, keepWith(z, 2, 0, 10, 0, 0), 1);
            alike("one alone, turned", z, 0, keepWith(z, 2, 0, 0, 10, 0), 1);
            alike("one alone, turned, in the other place", z, 0, keepWith(z, 2, 0, 0, 0, 10), 1);
            alike("two of one side do not part", z, keepWith(z, 2, 5, 5, 0, 0), keepWith(z, 2, 5, 0, 5, 0), 0);
        });
    }

    private static void mirrors(Edges e) {
        e.edge(PART, "those that become 0 and 1, or 2 and 3, may (all of them) be mirrored:", () -> {
            PenSwings x = Check.told(FOUR);
            x.keep();
            alike("0 and 1", x, 0, keepWith(x, 1, 3, 2, 0, 0), 1);
            alike("2 and 3", x, 0, keepWith(x, 1, 0, 0, 3, 2), 1);
            alike("all four", x, 0, keepWith(x, 1, 3, 2, 3, 2), 1);
            alike("0 alone of two", x, 0, keepWith(x, 1, 3, 0, 0, 0), 0);
            alike("1 alone of two", x, 0, keepWith(x, 1, 0, 2, 0, 0), 0);
            alike("2 alone of two", x, 0, keepWith(x, 1, 0, 0, 3, 0), 0);
            alike("3 alone of two", x, 0, keepWith(x, 1, 0, 0, 0, 2), 0);
        });
        e.edge(PART, "half the PERIOD more, which must be even.", () -> {
            // A time that is 0 MOD 4 is 0 or 4 MOD 8; 5 is odd, and so along can't be mirrored.
            PenSwings x = Check.told("pendulum kick 4 10 0 0;pendulum kick 5 10 0 0;pendulum kick 8 10 0 0;");
            x.keep();
            alike("an odd one beside it", x, 0, keepWith(x, 1, 2, 0, 0, 0), 0);
            alike("half of 5, cut down", x, 0, keepWith(x, 1, 2, 2, 0, 0), 0);
            alike("half of 5, and more", x, 0, keepWith(x, 1, 2, 3, 0, 0), 0);
            alike("across is even", x, 0, keepWith(x, 1, 0, 0, 4, 0), 1);
            x.set(1, 0, 1);
            int even = keepWith(x, 1, 0, 0, 0, 0);
            alike("a penny makes it even", x, even, keepWith(x, 1, 2, 3, 0, 0), 1);
            alike("less than half", x, even, keepWith(x, 1, 2, 2, 0, 0), 0);
        });
    }

    private static void silence(Edges e) {
        e.edge(PART, "(Without any such PENDULUM in both: ALIKE; in one: not.)", () -> {
            PenSwings x = new PenSwings();
            x.keep();
            set(x, 1, 1, 2, 3, 4);
            x.keep();
            set(x, 2, 1, 0, 0, 0);
            x.keep();
            set(x, 2, 0, 0, 0, 1);
            x.keep();
            alike("none and the same", x, 0, 0, 1);
            alike("none in both", x, 0, 1, 1);
            alike("none in one, 0 in the other", x, 0, 2, 0);
            alike("none in one, 3 in the other", x, 1, 3, 0);
        });
        e.edge(PART, "SPENT: THE ROUND is more than 5040.", () -> {
            PenSwings x = Check.told("pendulum even 16 1 0 0;pendulum even 9 1 0 0;pendulum even 7 1 0 0;"
                + "pendulum even 5 1 0 0;");
            Check.is("THE ROUND of 0", x.round(), 5040);
            x.keep();
            Check.is("just not", x.alike(0, 0), 1);
            // 27, 17 and 11: 5049 is the least round above 5040.
            PenSwings y = Check.told("pendulum even 27 1 0 0;pendulum even 17 1 0 0;pendulum even 11 1 0 0;"
                + "pendulum even 8 0 0 0;");
            y.keep();
            Check.is("THE ROUND", y.round(), 5049);
            Check.is("just so", y.alike(0, 0), -2);
            y.set(0, 2, 0);
            y.keep();
            Check.is("the second one's", y.alike(1, 0), -2);
            Check.is("not the first one's", y.alike(0, 1), 0);
            Check.is("187 is not", y.alike(1, 1), 1);
        });
    }

    private static void kindsOfPortraits(Edges e) {
        e.edge(PART, "KINDS OF PORTRAITS: each is of the KIND of the least one ahead that it is ALIKE (as the second "
            + "one); else, or where that is SPENT, of a new one.", () -> {
                PenSwings x = Check.told("pendulum even 27 1 0 0;pendulum even 17 1 0 0;"
                    + "pendulum even 11 1 0 0;pendulum even 8 0 0 0;");
                x.keep();
                x.keep();
                keepWith(x, 2, 0, 1, 1, 0);
                keepWith(x, 2, 1, 1, 1, 0);
                keepWith(x, 2, 0, 2, 2, 0);
                keepWith(x, 2, 0, 0, 1, 0);
                keepWith(x, 2, 0, 90, 90, 0);
                keepWith(x, 2, 0, 0, 90, 0);
                int[] due = {0, 1, 2, 3, 2, 5, 2, 5};
                for (int i = 0; i < 8; i++) {
                    Check.is("the least of the kind of " + i, x.kinds(i), due[i]);
                }
                Check.is("kinds", x.kinds(PenSwings.NONE), 5);
            });
    }

    private static void keepAndTake(Edges e) {
        e.edge(17, "A PORTRAIT is kept: its number.", () -> {
            PenSwings x = new PenSwings();
            for (int i = 0; i < 8; i++) {
                Check.is("portraits", x.count(2), i);
                Check.is("its number", x.keep(), i);
            }
            Check.is("portraits", x.count(2), 8);
        });
        e.edge(17, "NONE (STATUS 2): there are 8.", () -> {
            PenSwings x = Seen.rich();
            for (int i = 3; i < 8; i++) {
                Check.is("its number", x.keep(), i);
            }
            Seen.counted("a ninth", x, 2, () -> Check.is("keep", x.keep(), PenSwings.NONE));
            x.set(0, 0, 8);
            Seen.counted("another one", x, 2, () -> Check.is("keep", x.keep(), PenSwings.NONE));
            x.take(7);
            Check.is("the eighth is as it was", x.pendulum(0, 5), 4);
        });
        e.edge(18, "PENNIES, STARTS, SIZES become those of a PORTRAIT.", () -> {
            PenSwings x = Check.told(FOUR + "cart 3 4 5;");
            x.keep();
            for (int what = 0; what < 3; what++) {
                set(x, what, 9, 9, 9, 9);
            }
            x.keep();
            x.take(0);
            Check.row("the first", new int[] {x.pendulum(0, 5), x.pendulum(1, 3), x.pendulum(3, 2)}, 0, 0, 40);
            Check.is("it is still there", x.keep(), 2);
            x.take(1);
            Check.row("the last", new int[] {x.pendulum(0, 5), x.pendulum(1, 3), x.pendulum(3, 2)}, 9, 9, 9);
            Check.row("nothing else", new int[] {x.pendulum(0, 1), x.count(1), x.count(2)}, 6, 1, 3);
            x.set(0, 0, 5);
            x.take(1);
            Check.is("what is set later is none of it", x.pendulum(0, 5), 9);
        });
        e.edge(18, "NoSuchElementException: no such PORTRAIT (as everywhere).", () -> {
            Check.noSuch("take without any", () -> taken(new PenSwings(), 0));
            PenSwings x = Seen.rich();
            Seen.unchanged("no such portrait", x, () -> {
                for (int i : NO_PORTRAITS) {
                    Check.noSuch("take " + i, () -> taken(x, i));
                    Check.noSuch("alike " + i + " and 0", () -> x.alike(i, 0));
                    Check.noSuch("alike 0 and " + i, () -> x.alike(0, i));
                    Check.noSuch("laid " + i + " and 0", () -> x.laid(i, 0, 0, 1, 0));
                    Check.noSuch("laid 0 and " + i, () -> x.laid(0, i, 0, 1, 0));
                    if (i != PenSwings.NONE) {
                        Check.noSuch("kinds " + i, () -> x.kinds(i));
                    }
                }
            });
        });
    }

    private static int taken(PenSwings x, int portrait) {
        x.take(portrait);
        return 0;
    }

    private static void alikeAndKinds(Edges e) {
        e.edge(19, "Whether two PORTRAITS are ALIKE: 1, 0; -2: SPENT.", () -> {
            PenSwings x = Check.told("pendulum even 27 1 0 0;pendulum even 17 1 0 0;pendulum even 11 1 0 0;"
                + "pendulum even 2 0 0 0;");
            x.keep();
            x.set(2, 2, 0);
            x.keep();
            x.set(1, 2, 0);
            x.keep();
            Check.row("yes, no, SPENT", new int[] {x.alike(1, 1), x.alike(1, 2), x.alike(2, 0)}, 1, 0, -2);
            PenSwings y = new PenSwings();
            Check.noSuch("without any", () -> y.alike(0, 0));
            y.keep();
            Check.is("one with itself", y.alike(0, 0), 1);
            Check.noSuch("one alone", () -> y.alike(0, 1));
        });
        e.edge(20, "How many KINDS OF PORTRAITS there are (portrait NONE); the least PORTRAIT of its KIND.", () -> {
            PenSwings x = Check.told(FOUR);
            Check.is("none", x.kinds(PenSwings.NONE), 0);
            Check.noSuch("no portrait", () -> x.kinds(0));
            Check.noSuch("below NONE", () -> x.kinds(-2));
            x.keep();
            Check.is("one", x.kinds(PenSwings.NONE), 1);
            Check.is("its least", x.kinds(0), 0);
            Check.noSuch("behind the last", () -> x.kinds(1));
            for (int i = 1; i < 8; i++) {
                x.keep();
            }
            Check.is("eight of one kind", x.kinds(PenSwings.NONE), 1);
            Check.is("the least of the last", x.kinds(7), 0);
            PenSwings y = Check.told(FOUR);
            for (int i = 0; i < 8; i++) {
                y.set(0, 2, 11 + i);
                y.keep();
            }
            Check.is("eight of eight kinds", y.kinds(PenSwings.NONE), 8);
            Check.is("the least of the last", y.kinds(7), 7);
        });
    }

    private static void laid(Edges e) {
        e.edge(29, "LAID TOGETHER: CELLS of both (what 0), of the first alone (1), of the second alone (2).", () -> {
            // Along 30 or -30 with both, 10 or -10 with one: columns 14 and 11, 13 and 12.
            PenSwings x = Check.told("pendulum kick 2 10 0 0;pendulum kick 2 20 0 0;cart 0 20 20;");
            x.keep();
            x.set(1, 2, 0);
            x.keep();
            Check.row("nothing in common", laidAll(x, 0, 1, 0, 1), 0, 2, 2);
            Check.row("one tick", laidAll(x, 0, 1, 9999, 9999), 0, 1, 1);
            Check.row("with itself", laidAll(x, 0, 0, 0, 999), 2, 0, 0);
            x.set(1, 2, 2);
            x.keep();
            Check.row("the same cells", laidAll(x, 1, 2, 0, 999), 2, 0, 0);
            x.set(0, 2, 9);
            x.set(1, 2, 90);
            x.keep();
            Check.row("far off", laidAll(x, 3, 1, 0, 0), 0, 1, 1);
        });
        e.edge(29, "NoSuchElementException: also another what.", () -> {
            PenSwings x = Seen.rich();
            Seen.unchanged("no such what", x, () -> {
                for (int what : new int[] {-1, 3, Integer.MIN_VALUE, Integer.MAX_VALUE}) {
                    Check.noSuch("laid " + what, () -> x.laid(0, 1, 0, 1, what));
                    Check.noSuch("laid " + what + ", ahead of its ticks", () -> x.laid(0, 1, 5, 4, what));
                }
                Check.noSuch("no portrait, ahead of its ticks", () -> x.laid(3, 0, -1, 4, 0));
                Check.noSuch("no second portrait, ahead of its ticks", () -> x.laid(0, 3, 0, 10000, 0));
            });
        });
    }

    private static int[] laidAll(PenSwings x, int first, int second, int from, int to) {
        return new int[] {x.laid(first, second, from, to, 0), x.laid(first, second, from, to, 1), x.laid(first, second,
            from, to, 2)};
    }

    private static void images(Edges e) {
        e.edge(32, "PENNIES, STARTS, SIZES, PORTRAITS, POINTS, BIRTHDAYS are kept as an image, in place of another "
            + "one.", () -> {
            PenSwings x = Seen.rich();
            x.image();
            String first = Seen.of(x);
            changeAll(x);
            x.image();
            String second = Seen.of(x);
            x.take(0);
            x.forget();
            Check.is("restored", x.restore() ? 1 : 0, 1);
            Check.is("the latest image", Seen.of(x).equals(second) && !second.equals(first) ? 1 : 0, 1);
            PenSwings y = new PenSwings();
            y.image();
            y.keep();
            y.point(1, 1, 1);
            y.birthday(3);
            set(y, 2, 1, 2, 3, 4);
            Check.is("an image of nothing", y.restore() ? 1 : 0, 1);
            Check.row("nothing again", new int[] {y.count(2), y.count(3), y.count(4), y.pendulum(3, 2)}, 0, 0, 0, 0);
        });
        e.edge(33, "They are as the image again: true.", () -> {
            PenSwings x = Seen.rich();
            x.image();
            int[] status = Seen.status(x);
            for (int i = 0; i < 2; i++) {
                int[] tape = {x.count(5), x.fault()};
                Seen.kept("changed and restored", x, () -> {
                    changeAll(x);
                    Check.row("others meanwhile", new int[] {x.count(2), x.count(3), x.count(4), x.factor(1) > 0 ? 1 : 0},
                        4, 3, 4, 1);
                    Check.is("restored", x.restore() ? 1 : 0, 1);
                });
                Check.row("STATUS, the tape", new int[] {x.count(5), x.fault()}, tape);
            }
            Check.row("STATUS", Seen.status(x), status);
        });
        e.edge(33, "False: there is none.", () -> {
            PenSwings x = new PenSwings();
            x.keep();
            x.birthday(1);
            Check.is("none at first", x.restore() ? 1 : 0, 0);
            Check.row("all as it was", new int[] {x.count(2), x.count(4)}, 1, 1);
            x.image();
            Check.is("there is one", x.restore() ? 1 : 0, 1);
            Check.is("still there", x.restore() ? 1 : 0, 1);
            Check.is("swings with a fault", Check.swings(x, "x"), 1);
            Check.is("it stays behind a fault", x.restore() ? 1 : 0, 1);
            Check.is("swings", Check.swings(x, ""), 0);
            x.keep();
            Check.is("gone with swings", x.restore() ? 1 : 0, 0);
            Check.is("all as it was", x.count(2), 1);
        });
    }

    /** Another value of all that an image keeps; three of each that can be full are more than there were. */
    private static void changeAll(PenSwings x) {
        set(x, 0, 9, 8, 7, 6);
        set(x, 1, 91, 92, 93, 94);
        set(x, 2, 81, 82, 83, 84);
        x.keep();
        x.unpoint();
        x.point(50, 60, 70);
        x.point(51, 61, 71);
        x.forget();
        x.birthday(100);
        x.birthday(101);
        x.birthday(102);
        x.birthday(103);
    }
}
