/** Promises 30 evening, 31 drawing. */
public final class EveningTest {
    public static void main(String[] args) {
        withoutTea();
        withTea();
        ties();
        kept();
        eight();
        wrong();
        Check.end();
    }

    private static PenSwings portraits(int[][] pennies) {
        PenSwings x = new PenSwings();
        for (int[] row : pennies) {
            pennies(x, row);
            x.keep();
        }
        pennies(x, new int[4]);
        return x;
    }

    private static void pennies(PenSwings x, int[] row) {
        for (int p = 0; p < 4; p++) {
            x.set(p, 0, row[p]);
        }
    }

    private static void evening(String name, PenSwings x, int set, int moved, int tea, int... order) {
        Check.is(name, x.evening(set), moved);
        Check.is(name + ", tea", x.drawing(PenSwings.NONE), tea);
        for (int i = 0; i < order.length; i++) {
            Check.is(name + ", drawing " + i, x.drawing(i), order[i]);
        }
        Check.noSuch(name + ", no more drawings", () -> x.drawing(order.length));
    }

    private static void withoutTea() {
        PenSwings x = portraits(new int[][] {{3, 0, 0, 0}, {1, 0, 0, 0}, {2, 0, 0, 0}});
        evening("up", x, 7, 3, 0, 1, 2, 0);
        evening("two of them", x, 5, 3, 0, 2, 0);
        pennies(x, new int[] {4, 0, 0, 0});
        // Down through 2 and 1 costs 3 as well, but is behind it as a row.
        evening("down, and up from tea", x, 7, 3, 1, 0, 1, 2);
        pennies(x, new int[] {4, 1, 0, 0});
        evening("one more to take off", x, 7, 4, 1, 0, 1, 2);
        pennies(x, new int[] {4, 0, 0, 0});
        evening("one", x, 2, 3, 0, 1);
        Check.is("pennies are as they were", x.pendulum(0, 5), 4);
    }

    private static void withTea() {
        PenSwings x = portraits(new int[][] {{9, 9, 0, 0}, {0, 0, 0, 1}, {0, 0, 9, 0}});
        pennies(x, new int[] {9, 9, 9, 9});
        // 18 off first, then all off by tea, 1 on; 9 more for the third, or the third one first and so on.
        evening("tea", x, 3, 19, 1, 0, 1);
        // 0 (18), tea, 1 (1), 2 (10): 29. 0 (18), 2 (27).. is dearer; 0, tea, 2 (9), 1 (10): 37.
        evening("three", x, 7, 29, 1, 0, 1, 2);
    }

    private static void ties() {
        PenSwings same = portraits(new int[][] {{1, 1, 1, 1}, {1, 1, 1, 1}, {1, 1, 1, 1}});
        evening("as they are numbered", same, 7, 4, 0, 0, 1, 2);
        PenSwings none = portraits(new int[][] {{0, 0, 0, 0}, {0, 0, 0, 0}});
        evening("without tea, if it does nothing", none, 3, 0, 0, 0, 1);
        PenSwings soon = portraits(new int[][] {{5, 0, 0, 0}, {0, 0, 0, 0}, {0, 0, 0, 0}, {0, 5, 0, 0}});
        // 5 on, tea, none, none, 5 on; the row 1, 2, 0 or another one would cost as much, but is behind it.
        evening("the soonest tea", soon, 15, 10, 1, 0, 1, 2, 3);
        PenSwings late = portraits(new int[][] {{5, 0, 0, 0}, {5, 0, 0, 0}, {0, 5, 0, 0}});
        evening("tea in the middle", late, 7, 10, 2, 0, 1, 2);
        PenSwings first = portraits(new int[][] {{5, 0, 0, 0}, {0, 0, 0, 0}});
        // 0, tea, 1 costs 5, and so does 1, 0 without tea: the row is told first.
        evening("the row ahead of tea", first, 3, 5, 1, 0, 1);
    }

    private static void kept() {
        PenSwings x = portraits(new int[][] {{3, 0, 0, 0}, {1, 0, 0, 0}});
        x.image();
        evening("kept", x, 3, 3, 0, 1, 0);
        Check.illegal("evening 4", () -> x.evening(4));
        Check.is("still kept", x.drawing(0), 1);
        x.take(0);
        x.restore();
        Check.is("still kept", x.drawing(1), 0);
        Check.noSuch("drawing -2", () -> x.drawing(-2));
        Check.noSuch("drawing 2", () -> x.drawing(2));
    }

    private static void eight() {
        int[][] rows = new int[8][];
        for (int i = 0; i < 8; i++) {
            rows[i] = new int[] {i == 0 ? 9 : 8 - i, 0, 0, 0};
        }
        PenSwings x = portraits(rows);
        evening("one after another", x, 255, 9, 0, 7, 6, 5, 4, 3, 2, 1, 0);
        evening("each other one", x, 0xaa, 7, 0, 7, 5, 3, 1);
        int[][] corners = {{9, 9, 9, 9}, {9, 9, 9, 0}, {9, 9, 0, 0}, {9, 0, 0, 0}, {0, 0, 0, 0}, {0, 0, 0, 5}, {0, 0, 5, 5}, {0, 5, 5, 5}};
        // Up by 9 each to the first one, tea, and up by 5 each.
        PenSwings y = portraits(corners);
        evening("two ways up", y, 255, 36 + 15, 4, 3, 2, 1, 0, 4, 5, 6, 7);
    }

    private static void wrong() {
        PenSwings x = new PenSwings();
        Check.noSuch("none is kept", () -> x.drawing(0));
        Check.noSuch("none is kept, tea", () -> x.drawing(PenSwings.NONE));
        Check.illegal("no portraits", () -> x.evening(1));
        for (int i = 0; i < 8; i++) {
            x.keep();
        }
        Check.illegal("none", () -> x.evening(0));
        Check.illegal("256", () -> x.evening(256));
        Check.illegal("-1", () -> x.evening(-1));
        Check.illegal("least", () -> x.evening(Integer.MIN_VALUE));
        Check.is("all eight", x.evening(255), 0);
        Check.is("the last", x.drawing(7), 7);
    }
}
