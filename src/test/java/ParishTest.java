/** Promises 26 birthday, 27 forget, 28 factor. */
public final class ParishTest {
    public static void main(String[] args) {
        PenSwings x = new PenSwings();
        factor("none", x, 1, 4);
        Check.is("0", x.birthday(0), 1);
        factor("one", x, 1, 4);
        Check.is("364", x.birthday(364), 2);
        factor("far apart, and not round the year", x, 1, 4);
        Check.is("same day", x.birthday(0), 3);
        factor("the same day counts for nothing", x, 1, 4);
        Check.is("day -1", x.birthday(-1), PenSwings.NONE);
        Check.is("day 365", x.birthday(365), PenSwings.NONE);
        for (int i = 4; i <= 10; i++) {
            Check.is("birthday " + i, x.birthday(20 * i), i);
        }
        Check.is("eleventh", x.birthday(5), PenSwings.NONE);
        Check.is("refused", x.count(10), 3);
        Check.is("there are", x.count(4), 10);
        factor("all far apart", x, 1, 4);
        Check.is("forget", x.forget(), 10);
        Check.is("forget none", x.forget(), 0);
        near(x);
        sevenDays(x);
        Check.noSuch("factor 2", () -> x.factor(2));
        Check.noSuch("factor -1", () -> x.factor(-1));
        Check.end();
    }

    private static void factor(String name, PenSwings x, int best, int fewest) {
        Check.is(name + ", factor", x.factor(0), best);
        Check.is(name + ", fewest", x.factor(1), fewest);
    }

    private static void near(PenSwings x) {
        x.birthday(0);
        x.birthday(7);
        // 7 by 159 is 1113, the first row without a 0.
        factor("0 and 7", x, 159, 4);
        x.forget();
        x.birthday(0);
        x.birthday(1);
        // One day alone has three figures at most by 999, and 0 none.
        factor("0 and 1", x, 111, 3);
        x.birthday(2);
        factor("0, 1, 2", x, 111, 3);
        x.forget();
    }

    private static void sevenDays(PenSwings x) {
        x.birthday(0);
        x.birthday(8);
        factor("8 apart", x, 1, 4);
        x.birthday(4);
        // 4 and 8 by 278: 1112 and 2224, unlike 0000 and one another in all.
        factor("4 apart", x, 278, 4);
        x.forget();
        // By 125 the days 1 and 81 would both be 0125.
        x.birthday(1);
        x.birthday(8);
        factor("1 and 8", x, 125, 4);
        x.birthday(81);
        factor("none have the same figures", x, 126, 4);
        x.forget();
        factor("forgotten", x, 1, 4);
    }
}
