/** A parish's birthdays, portraits laid together, an evening: part 5, promises 26 to 28, 30, 31. */
final class ParishEdges {
    private static final String PART = "Part 5";
    private static final int[] FAR = {Integer.MIN_VALUE, Integer.MAX_VALUE};

    private ParishEdges() {
    }

    static void all(Edges e) {
        days(e);
        factors(e);
        best(e);
        laid(e);
        evenings(e);
        tea(e);
        likeEvenings(e);
        birthday(e);
        factor(e);
        evening(e);
        drawing(e);
    }

    private static PenSwings parish(int... days) {
        PenSwings x = new PenSwings();
        for (int i = 0; i < days.length; i++) {
            Check.is("a birthday", x.birthday(days[i]), i + 1);
        }
        return x;
    }

    private static void best(String name, int factor, int fewest, int... days) {
        PenSwings x = parish(days);
        Check.row(name, new int[] {x.factor(0), x.factor(1)}, factor, fewest);
    }

    private static void days(Edges e) {
        e.edge(PART, "A PARISH has BIRTHDAYS (at most 10; DAYS 0 to 364).", () -> {
            PenSwings x = parish(0, 364, 10, 20, 30, 40, 50, 60, 70, 80);
            Check.is("ten", x.count(4), 10);
            Check.is("an eleventh", x.birthday(1), PenSwings.NONE);
            Check.is("one more", parish().birthday(365), PenSwings.NONE);
            Check.is("one less", parish().birthday(-1), PenSwings.NONE);
            Check.is("the first day", parish().birthday(0), 1);
            Check.is("the last day", parish().birthday(364), 1);
            // The tenth one counts: 80 and 73 are 7 apart.
            best("the tenth is far", 1, 4, 0, 364, 10, 20, 30, 40, 50, 60, 70, 80);
            PenSwings y = parish(0, 364, 10, 20, 30, 40, 50, 60, 80, 73);
            Check.is("the tenth is near", y.factor(0) > 1 ? 1 : 0, 1);
        });
    }

    private static void factors(Edges e) {
        e.edge(PART, "By a FACTOR (1 to 999)", () -> {
            best("none: the least", 1, 4);
            // 1111 would make all four unlike: by 999 and less the first figure of 1 is 0, as that of 0.
            best("1111 is no factor", 111, 3, 0, 1);
            best("a far one", 957, 4, 12, 27, 28, 128, 200, 201, 203, 206, 207, 211);
        });
        e.edge(PART, "a DAY has the four figures of DAY by FACTOR MOD 10000 (0s ahead of it) as PENNIES.", () -> {
            // 0875 and 1000: ahead of it both have a 0 as the first of four.
            best("0s ahead of it", 125, 4, 7, 8);
            // 9999 and 0100: up to 100, one ends in 0 and so does the other one, or both have one first figure.
            best("10100 is 0100", 101, 4, 99, 100);
            // 9936 and 0005.
            best("10005 is 0005", 69, 4, 144, 145);
            best("all figures of the first day are 0", 159, 4, 0, 7);
        });
    }

    private static void best(Edges e) {
        e.edge(PART, "THE BEST FACTOR: that by which no two BIRTHDAYS (of unlike DAYS) have the same figures,", () -> {
            // By 125 the days 8 and 88 both have 1000.
            best("8 and 88", 126, 4, 7, 8, 88);
            best("89 is another one", 125, 4, 7, 8, 89);
            best("one day twice", 125, 4, 7, 8, 8, 7);
            best("one day ten times", 1, 4, 5, 5, 5, 5, 5, 5, 5, 5, 5, 5);
        });
        e.edge(PART, "and of two that are no more than 7 DAYS apart (unlike ones)", () -> {
            // 0590 and 1003; 0560 and 1008 would be the first of 10 and 18.
            best("7 apart", 59, 4, 10, 17);
            best("7 apart, the later one first", 59, 4, 17, 10);
            best("8 apart", 1, 4, 10, 18);
            best("the last week", 11, 4, 357, 364);
            best("the last week and a day", 1, 4, 356, 364);
            best("not round the year", 1, 4, 364, 0);
        });
        e.edge(PART, "the fewest figures that are unlike are most (4, if there are no two such);", () -> {
            best("no birthday", 1, 4);
            best("one birthday", 1, 4, 100);
            best("two that are far apart", 1, 4, 100, 200);
            best("two of one day", 1, 4, 100, 100);
            best("3 at most", 111, 3, 0, 1);
            best("the fewest of all pairs", 111, 3, 0, 1, 2);
            best("of two pairs one has 3 at most", 111, 3, 0, 1, 200, 300);
        });
        e.edge(PART, "of like ones the least.", () -> {
            // By 126 and more all four are unlike, too: 0882 and 1008.
            best("125 ahead of 126", 125, 4, 7, 8);
            // By 250: 0750 and 1000, both end in 0; by 251: 0753 and 1004.
            best("251, not 250", 251, 4, 3, 4);
        });
        e.edge(PART, "None, if there is none.", () -> {
            // By 1 all days have figures of their own, so that there is always one.
            for (int[] days : new int[][] {{0, 1, 2, 3, 4, 5, 6, 7, 8, 9}, {355, 356, 357, 358, 359, 360, 361, 362, 363, 364},
                {0, 80, 160, 240, 320, 16, 32, 48, 64, 96}}) {
                PenSwings x = parish(days);
                Check.is("there is one", x.factor(0) >= 1 && x.factor(0) <= 999 ? 1 : 0, 1);
                Check.is("one figure at least", x.factor(1) >= 1 && x.factor(1) <= 4 ? 1 : 0, 1);
            }
        });
    }

    private static void laid(Edges e) {
        e.edge(PART, "LAID TOGETHER: of two PORTRAITS, DRAWN from a TICK to another one (no CARTS): how many CELLS "
            + "both have, the first alone, the second alone.", () -> {
                // Columns 13 and 12 in turn; lines 13 alone, or 14, 14, 11, 11; then columns 12 and 13 with these lines.
                PenSwings x = Check.told("pendulum kick 2 10 0 0;pendulum even 2 0 0 0;pendulum even 2 0 0 0;"
                    + "pendulum kick 4 0 0 0;cart 1 20 0;cart 3 20 0;");
                x.keep();
                x.set(3, 2, 30);
                x.keep();
                x.set(0, 1, 1);
                x.keep();
                Check.row("carts count for nothing", laidAll(x, 0, 0, 0, 99), 2, 0, 0);
                Check.is("they do for what is drawn", x.drawn(0, 99) > 4 ? 1 : 0, 1);
                Check.row("from 0 to 0", laidAll(x, 0, 1, 0, 0), 0, 1, 1);
                Check.row("from 0 to 3", laidAll(x, 0, 1, 0, 3), 0, 2, 4);
                Check.row("from 0 to 1", laidAll(x, 1, 2, 0, 1), 2, 0, 0);
                Check.row("from 1 to 2", laidAll(x, 1, 2, 1, 2), 0, 2, 2);
                Check.row("the last tick", laidAll(x, 1, 2, 9999, 9999), 0, 1, 1);
            });
    }

    private static int[] laidAll(PenSwings x, int first, int second, int from, int to) {
        return new int[] {x.laid(first, second, from, to, 0), x.laid(first, second, from, to, 1), x.laid(first, second,
            from, to, 2)};
    }

    /** Portraits of these pennies, and none put on now. */
    private static PenSwings portraits(int[]... rows) {
        PenSwings x = new PenSwings();
        for (int[] row : rows) {
            pennies(x, row);
            // What is moved are PENNIES alone.
            x.set(0, 1, 11 * x.count(2) + 1);
            x.set(3, 2, 90 - 11 * x.count(2));
            x.keep();
        }
        pennies(x, 0, 0, 0, 0);
        return x;
    }

    private static void pennies(PenSwings x, int... row) {
        for (int p = 0; p < 4; p++) {
            x.set(p, 0, row[p]);
        }
    }

    private static void evening(String name, PenSwings x, int set, int moved, int tea, int... order) {
        Check.is(name + ", moved", x.evening(set), moved);
        Check.is(name + ", tea", x.drawing(PenSwings.NONE), tea);
        for (int i = 0; i < order.length; i++) {
            Check.is(name + ", drawing " + i, x.drawing(i), order[i]);
        }
        Check.noSuch(name + ", no more", () -> x.drawing(order.length));
    }

    private static void evenings(Edges e) {
        e.edge(PART, "AN EVENING of some PORTRAITS (bits), each drawn once, from PENNIES as they are: the fewest "
            + "PENNIES moved;", () -> {
            int[][] rows = new int[8][];
            for (int i = 0; i < 8; i++) {
                rows[i] = new int[] {i + 1, 0, 0, 0};
            }
            PenSwings x = portraits(rows);
            evening("the first bit", x, 1, 1, 0, 0);
            evening("the last bit", x, 128, 8, 0, 7);
            evening("all bits", x, 255, 8, 0, 0, 1, 2, 3, 4, 5, 6, 7);
            evening("some bits", x, 0x91, 8, 0, 0, 4, 7);
            pennies(x, 8, 0, 0, 0);
            evening("from pennies as they are", x, 128, 0, 0, 7);
            // One after another downwards moves 7, too, without tea, but is behind it as a row.
            evening("all bits, from above", x, 255, 7, 1, 7, 0, 1, 2, 3, 4, 5, 6);
            pennies(x, 9, 9, 9, 9);
            evening("all are taken off", x, 1, 8 + 27, 0, 0);
            PenSwings y = portraits(new int[] {9, 9, 9, 9});
            evening("all are put on", y, 1, 36, 0, 0);
            evening("the same again", y, 1, 36, 0, 0);
        });
    }

    private static void tea(Edges e) {
        e.edge(PART, "TEA, at will, once, behind one of them but the last:", () -> {
            PenSwings x = portraits(new int[] {0, 0, 0, 0});
            pennies(x, 9, 9, 9, 9);
            evening("not ahead of the first, nor behind the last", x, 1, 36, 0, 0);
            PenSwings y = portraits(new int[] {9, 0, 0, 0}, new int[] {0, 9, 0, 0}, new int[] {0, 0, 9, 0});
            // 9 on, tea, 9 on, 9 off and 9 on; twice would save 9 more.
            evening("once", y, 7, 36, 1, 0, 1, 2);
            evening("behind the first of two", y, 3, 18, 1, 0, 1);
            evening("one alone has none", y, 4, 9, 0, 2);
            PenSwings z = portraits(new int[] {1, 0, 0, 0}, new int[] {9, 0, 0, 0}, new int[] {0, 0, 0, 1});
            evening("behind the last but one", z, 7, 10, 2, 0, 1, 2);
            PenSwings w = portraits(new int[] {1, 0, 0, 0}, new int[] {2, 0, 0, 0});
            evening("at will: it would not help", w, 3, 2, 0, 0, 1);
            PenSwings v = portraits(new int[] {2, 0, 0, 0}, new int[] {0, 1, 0, 0});
            pennies(v, 6, 0, 0, 0);
            // 4 off, tea, 1 on; ahead of the first it would move 2 on, then 2 off and 1 on, as many.
            evening("behind the first, not ahead of it", v, 3, 5, 1, 0, 1);
        });
        e.edge(PART, "all PENNIES are off behind it (moved by none).", () -> {
            PenSwings x = portraits(new int[] {9, 9, 9, 9}, new int[] {0, 0, 0, 0});
            pennies(x, 9, 9, 9, 9);
            evening("36 are off", x, 3, 0, 1, 0, 1);
            PenSwings y = portraits(new int[] {9, 9, 9, 9}, new int[] {1, 0, 0, 0}, new int[] {1, 1, 0, 0});
            pennies(y, 9, 9, 9, 9);
            evening("and put on from none", y, 7, 2, 1, 0, 1, 2);
            Check.is("pennies are as they were", y.pendulum(3, 5), 9);
        });
    }

    private static void likeEvenings(Edges e) {
        e.edge(PART, "Of like ones the first as a row of PORTRAITS, then without TEA, then the soonest TEA.", () -> {
            int[] none = {0, 0, 0, 0};
            PenSwings x = portraits(none, none, none, none, none, none, none, none);
            evening("all like", x, 255, 0, 0, 0, 1, 2, 3, 4, 5, 6, 7);
            evening("some of them", x, 0xa4, 0, 0, 2, 5, 7);
            PenSwings y = portraits(new int[] {5, 0, 0, 0}, none);
            // 0, tea, 1 moves 5, and so does 1, 0 without tea.
            evening("the row ahead of tea", y, 3, 5, 1, 0, 1);
            PenSwings z = portraits(new int[] {0, 0, 0, 0}, new int[] {5, 0, 0, 0});
            evening("without tea", z, 3, 5, 0, 0, 1);
            PenSwings w = portraits(new int[] {5, 0, 0, 0}, none, none, new int[] {0, 5, 0, 0});
            evening("behind the first alone", w, 15, 10, 1, 0, 1, 2, 3);
            PenSwings u = portraits(new int[] {9, 0, 0, 0}, new int[] {0, 9, 0, 0}, new int[] {0, 0, 9, 0}, new int[] {0,
                0, 0, 9});
            evening("the soonest tea of three", u, 15, 9 + 9 + 18 + 18, 1, 0, 1, 2, 3);
            PenSwings v = portraits(new int[] {5, 0, 0, 0}, new int[] {5, 0, 0, 0}, new int[] {0, 5, 0, 0});
            evening("a later one is dearer sooner", v, 7, 10, 2, 0, 1, 2);
        });
    }

    private static void birthday(Edges e) {
        e.edge(26, "A BIRTHDAY: how many there are.", () -> {
            PenSwings x = new PenSwings();
            for (int i = 1; i <= 10; i++) {
                Check.is("birthday " + i, x.birthday(i < 6 ? 0 : 364), i);
                Check.is("there are", x.count(4), i);
            }
        });
        e.edge(26, "NONE (STATUS 4): there are 10, it is no DAY.", () -> {
            for (int wrong : new int[] {-1, 365, FAR[0], FAR[1]}) {
                PenSwings x = Seen.rich();
                Seen.counted("day " + wrong, x, 4, () -> Check.is("birthday", x.birthday(wrong), PenSwings.NONE));
            }
            PenSwings x = Seen.rich();
            for (int i = 4; i <= 10; i++) {
                Check.is("birthday " + i, x.birthday(20 * i), i);
            }
            Seen.counted("an eleventh", x, 4, () -> Check.is("birthday", x.birthday(1), PenSwings.NONE));
        });
        e.edge(27, "All BIRTHDAYS are forgotten: how many there were.", () -> {
            PenSwings x = new PenSwings();
            Check.is("none", x.forget(), 0);
            for (int i = 0; i < 10; i++) {
                x.birthday(i);
            }
            Check.row("ten are near", new int[] {x.factor(0), x.factor(1)}, 111, 3);
            Check.is("ten", x.forget(), 10);
            Check.is("none is left", x.count(4), 0);
            Check.row("forgotten", new int[] {x.factor(0), x.factor(1)}, 1, 4);
            Check.is("none again", x.forget(), 0);
            Check.is("there is room again", x.birthday(0), 1);
            Check.is("one", x.forget(), 1);
        });
    }

    private static void factor(Edges e) {
        e.edge(28, "THE BEST FACTOR (what 0), the fewest figures that are unlike by it (1); NONE: none.", () -> {
            best("none", 1, 4);
            best("3", 111, 3, 0, 1);
            PenSwings x = parish(7, 8);
            Check.row("found", new int[] {x.factor(0), x.factor(1)}, 125, 4);
            x.birthday(88);
            Check.row("found anew", new int[] {x.factor(0), x.factor(1)}, 126, 4);
            x.birthday(366);
            Check.row("as before", new int[] {x.factor(1), x.factor(0)}, 4, 126);
        });
        e.edge(28, "NoSuchElementException: another what.", () -> {
            PenSwings x = Seen.rich();
            Seen.unchanged("no such what", x, () -> {
                for (int what : new int[] {-1, 2, FAR[0], FAR[1]}) {
                    Check.noSuch("factor " + what, () -> x.factor(what));
                }
            });
        });
    }

    private static void evening(Edges e) {
        e.edge(30, "AN EVENING: the fewest PENNIES moved; it is kept.", () -> {
            PenSwings x = portraits(new int[] {3, 0, 0, 0}, new int[] {1, 0, 0, 0});
            evening("two", x, 3, 3, 0, 1, 0);
            x.take(0);
            x.keep();
            x.image();
            x.restore();
            Check.row("still kept", new int[] {x.drawing(-1), x.drawing(0), x.drawing(1)}, 0, 1, 0);
            evening("in its place", x, 1, 0, 0, 0);
        });
        e.edge(30, "IllegalArgumentException: bits of PORTRAITS that there aren't, none.", () -> {
            Check.illegal("no portraits, none", () -> new PenSwings().evening(0));
            Check.illegal("no portraits", () -> new PenSwings().evening(1));
            PenSwings x = Seen.rich();
            Seen.unchanged("no such evening", x, () -> {
                for (int wrong : new int[] {0, 8, 9, 15, 128, 256, 1 << 30, -1, -8, FAR[0], FAR[1]}) {
                    Check.illegal("evening " + wrong, () -> x.evening(wrong));
                }
            });
            for (int i = 3; i < 8; i++) {
                x.keep();
            }
            for (int wrong : new int[] {0, 256, 257, 511, -1, -256, FAR[0], FAR[1]}) {
                Check.illegal("evening " + wrong + " of eight", () -> x.evening(wrong));
            }
            Check.is("all eight", x.evening(255) >= 0 ? 1 : 0, 1);
        });
    }

    private static void drawing(Edges e) {
        e.edge(31, "The i-th PORTRAIT of the EVENING that is kept; behind how many there is TEA (i NONE; 0: none).", () -> {
            PenSwings x = portraits(new int[] {9, 0, 0, 0}, new int[] {0, 9, 0, 0});
            x.evening(3);
            Check.row("tea, the first, the last", new int[] {x.drawing(-1), x.drawing(0), x.drawing(1)}, 1, 0, 1);
            x.evening(2);
            Check.row("one alone", new int[] {x.drawing(-1), x.drawing(0)}, 0, 1);
        });
        e.edge(31, "NoSuchElementException: none is kept, there is none.", () -> {
            PenSwings x = new PenSwings();
            x.keep();
            x.keep();
            for (int i : new int[] {-1, 0, 1}) {
                Check.noSuch("none is kept, " + i, () -> x.drawing(i));
            }
            Check.illegal("none can be", () -> x.evening(0));
            Check.noSuch("none is kept still", () -> x.drawing(-1));
            x.evening(3);
            Check.is("the last", x.drawing(1), 1);
            x.evening(2);
            for (int i : new int[] {1, 2, 8, -2, FAR[0], FAR[1]}) {
                Check.noSuch("there is none, " + i, () -> x.drawing(i));
            }
            Check.is("swings", Check.swings(x, ""), 0);
            Check.noSuch("gone with swings", () -> x.drawing(-1));
        });
    }
}
