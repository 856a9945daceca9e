import java.util.NoSuchElementException;
import java.util.Random;

/** All promises: random runs of up to 512 calls, each answer held against the document tried word by word. */
public final class RandomRunsTest {
    private static final String[] SWING_WORDS = {"pendulum", "even", "bowl", "kick", "cart", "pennies", ";", "-", "0",
        "1", "7", "20", "21", "40", "90", "91", "99", "100", "999", "1000", "0003", "x", "(", "\t", "\u00e9", "P"};
    private static final String[] SCORE_WORDS = {"draw", "lift", "penny", "size", "turn", "repeat", "when", "else", "(",
        ")", "not", "marked", "right", "above", "loud", "-", "0", "1", "3", "4", "9", "20", "21", "90", "200", "201",
        "1000", ";", "drawx", "A"};
    private static final int[] ODD = {-2, -1, 10000, 364, 365, 728, 729, 999, 1000, 9999, Integer.MAX_VALUE,
        Integer.MIN_VALUE, 8, 10, 11};

    private interface Ask {
        int answer();
    }

    private static Random random;
    private static PenSwings x;
    private static Plain y;
    private static String call;

    public static void main(String[] args) {
        int runs = args.length > 0 ? Integer.parseInt(args[0]) : 250;
        int seed = args.length > 1 ? Integer.parseInt(args[1]) : 1;
        for (int run = 0; run < runs; run++) {
            random = new Random(1000003L * seed + run);
            x = new PenSwings();
            y = new Plain();
            tellSwings();
            int calls = 60 + random.nextInt(300);
            for (int i = 0; i < calls; i++) {
                ask(run);
            }
        }
        Check.end();
    }

    private static int below(int n) {
        return random.nextInt(n);
    }

    /** Mostly within, now and then just outside or far off. */
    private static int near(int least, int most) {
        int chance = below(20);
        if (chance == 0) {
            return ODD[below(ODD.length)];
        }
        if (chance == 1) {
            return below(2) == 0 ? least - 1 : most + 1;
        }
        if (chance < 5) {
            return below(2) == 0 ? least : most;
        }
        return least + below(Math.max(1, most - least + 1));
    }

    private static void hold(String name, Ask got, Ask due) {
        call = name;
        Check.is(call, outcome(got), outcome(due));
    }

    private static long outcome(Ask ask) {
        try {
            return ask.answer();
        } catch (NoSuchElementException e) {
            return 1L << 40;
        } catch (IllegalArgumentException e) {
            return 1L << 41;
        }
    }

    private static void feed(String text) {
        for (int from = 0; from < text.length(); from += 20) {
            int[] w = Check.words(text, from);
            hold("feed", () -> x.feed(w[0], w[1], w[2], w[3], w[4]), () -> y.feed(w[0], w[1], w[2], w[3], w[4]));
        }
    }

    private static String within(int least, int most) {
        return " " + (least + below(most - least + 1));
    }

    private static String signedWithin(int most) {
        return below(2) == 0 ? within(0, most) : " -" + below(most + 1);
    }

    private static void tellSwings() {
        StringBuilder text = new StringBuilder();
        int pendulums = below(8) == 0 ? below(4) : 4;
        int smallest = below(2) == 0 ? 12 : 40;
        boolean losses = below(3) != 0;
        String[] kinds = {"even", "bowl", "kick"};
        String one = kinds[below(3)];
        boolean same = below(3) == 0;
        String length = within(2, smallest);
        for (int p = 0; p < pendulums; p++) {
            text.append("pendulum ").append(same ? one : kinds[below(3)]).append(same ? length : within(2, smallest));
            text.append(below(4) == 0 ? " 0" : within(0, 90)).append(within(0, 99));
            text.append(losses ? within(0, below(2) == 0 ? 99 : 9) : " 0").append(below(2) == 0 ? ";" : " ;\n");
        }
        for (int c = below(5); c > 0; c--) {
            text.append("cart").append(within(0, below(2) == 0 ? 999 : 30)).append(signedWithin(20));
            text.append(signedWithin(20)).append(";");
        }
        if (below(2) == 0) {
            text.append("pennies").append(within(0, 9)).append(within(0, 9)).append(within(0, 9)).append(within(0, 9));
            text.append(";");
        }
        swings(text.toString());
    }

    private static void swings(String text) {
        feed(text);
        int n = Math.min(text.length(), y.tape.length());
        hold("swings " + text, () -> x.swings(n), () -> y.swings(n));
        hold("fault", () -> x.fault(), () -> y.place);
    }

    private static void score(String text) {
        feed(text);
        int n = Math.min(text.length(), y.tape.length());
        hold("score " + text, () -> x.score(n), () -> y.score(n));
        hold("fault", () -> x.fault(), () -> y.place);
    }

    private static String acts(int depth) {
        StringBuilder text = new StringBuilder();
        for (int i = below(4); i >= 0; i--) {
            switch (below(9)) {
                case 0, 1 -> text.append("draw").append(within(1, below(3) == 0 ? 200 : 20));
                case 2 -> text.append("lift").append(within(1, below(3) == 0 ? 200 : 20));
                case 3 -> text.append("penny").append(within(0, 3)).append(signedWithin(9));
                case 4 -> text.append("size").append(within(0, 3)).append(signedWithin(90));
                case 5 -> text.append("turn");
                case 6, 7 -> {
                    if (depth < 6) {
                        text.append("repeat").append(within(0, below(3) == 0 ? 20 : 4));
                        text.append("(").append(acts(depth + 1)).append(")");
                    }
                }
                default -> {
                    if (depth < 6) {
                        text.append("when ").append("not ".repeat(below(3) == 0 ? below(6) : 0)).append(test());
                        text.append("(").append(acts(depth + 1)).append(")");
                        text.append(below(2) == 0 ? "else(" + acts(depth + 1) + ")" : "");
                    }
                }
            }
            text.append(" ");
        }
        return text.toString();
    }

    private static String test() {
        String[] tests = {"marked", "right", "above", "loud" + below(4)};
        return tests[below(4)];
    }

    private static String soup(String[] words, int n) {
        StringBuilder text = new StringBuilder();
        for (int i = 0; i < n; i++) {
            text.append(words[below(words.length)]).append(below(3) == 0 ? "" : " ");
        }
        return text.toString();
    }

    /** A good text with one place spoilt. */
    private static String spoilt(String text, String[] words) {
        if (text.isEmpty()) {
            return text;
        }
        int at = below(text.length());
        switch (below(4)) {
            case 0:
                return text.substring(0, at);
            case 1:
                return text.substring(0, at) + text.substring(at + 1);
            case 2:
                return text.substring(0, at) + words[below(words.length)] + text.substring(at);
            default:
                return text.substring(0, at) + " " + words[below(words.length)] + " " + text.substring(at);
        }
    }

    private static void ask(int run) {
        switch (below(40)) {
            case 0 -> swingsNow();
            case 1, 2 -> scoreNow();
            case 3, 4, 5 -> performance();
            case 6 -> {
                int w = near(0, 10);
                hold("count " + w, () -> x.count(w), () -> y.count(w));
            }
            case 7 -> {
                int p = near(0, 3);
                int w = near(0, 6);
                hold("pendulum " + p + " " + w, () -> x.pendulum(p, w), () -> y.pendulum(p, w));
            }
            case 8, 9, 10, 11, 12 -> change();
            case 13, 14, 15 -> places();
            case 16, 17 -> paper();
            case 18 -> hold("round", () -> x.round(), () -> y.round());
            case 19 -> hold("off", () -> x.off(), () -> y.off());
            case 20, 21, 22, 23 -> portraits();
            case 24, 25, 26, 27 -> alikes();
            case 28, 29, 30 -> points();
            case 31, 32 -> fitting();
            case 33, 34 -> parish();
            case 35, 36, 37 -> evening();
            case 38 -> {
                if (below(2) == 0) {
                    x.image();
                    y.image();
                } else {
                    hold("restore", () -> x.restore() ? 1 : 0, () -> y.restore());
                }
            }
            default -> {
                int n = near(0, 20);
                if (n < 0 || n > y.tape.length()) {
                    hold("swings " + n, () -> x.swings(n), () -> y.swings(n));
                    hold("score " + n, () -> x.score(n), () -> y.score(n));
                }
                hold("fault", () -> x.fault(), () -> y.place);
                feed(soup(SWING_WORDS, below(8)));
            }
        }
    }

    private static void swingsNow() {
        switch (below(5)) {
            case 0 -> tellSwings();
            case 1 -> swings(soup(SWING_WORDS, below(6)));
            default -> {
                String good = "pendulum even 8 40 0 0;pendulum kick 4 10 1 50;pendulum bowl 8 40 2 0;pendulum bowl 9 1 2 3;"
                    + "cart 5 3 -2;cart 5 3 -2;cart 999 20 -20;cart 0 0 0;pennies 0 1 2 9;";
                swings(spoilt(below(2) == 0 ? good : good + good.substring(0, 22), SWING_WORDS));
            }
        }
    }

    private static void scoreNow() {
        switch (below(4)) {
            case 0 -> score(soup(SCORE_WORDS, below(8)));
            case 1 -> score(spoilt(acts(0), SCORE_WORDS));
            default -> score(acts(0));
        }
        performance();
    }

    private static void performance() {
        for (int what = 0; what < 4; what++) {
            int w = what;
            hold("performed " + w, () -> x.performed(w), () -> y.performed(w));
        }
        int last = y.performed(3);
        int c = below(2) == 0 || last < 0 ? near(0, 728) : last;
        hold("marks " + c, () -> x.marks(c), () -> y.marks(c));
        int w = near(0, 3);
        hold("performed " + w, () -> x.performed(w), () -> y.performed(w));
    }

    private static void change() {
        int p = near(0, 3);
        int w = near(0, 2);
        int v = near(0, w == 0 ? 9 : w == 1 ? 99 : 90);
        hold("set " + p + " " + w + " " + v, () -> x.set(p, w, v), () -> y.set(p, w, v));
    }

    private static void places() {
        int p = near(0, 3);
        int t = below(2) == 0 ? near(0, 9999) : near(0, 200);
        hold("swing " + p + " " + t, () -> x.swing(p, t), () -> y.swing(p, t));
        int axis = near(0, 1);
        hold("pen " + t + " " + axis, () -> x.pen(t, axis), () -> y.pen(t, axis));
    }

    private static void paper() {
        int from = below(2) == 0 ? near(0, 9999) : near(0, 300);
        int to = near(from, from + 999);
        hold("drawn " + from + " " + to, () -> x.drawn(from, to), () -> y.drawn(from, to));
        int cell = below(2) == 0 ? near(0, 728) : 364 + below(3) - 1 + 27 * (below(3) - 1);
        hold("inCell " + cell, () -> x.inCell(cell, from, to), () -> y.inCell(cell, from, to));
    }

    private static void portraits() {
        if (below(3) != 0) {
            hold("keep", () -> x.keep(), () -> y.keep());
            return;
        }
        int i = near(0, y.portraits.size() - 1);
        if (below(2) == 0) {
            hold("take " + i, () -> {
                x.take(i);
                return 0;
            }, () -> y.take(i));
            return;
        }
        int j = near(0, y.portraits.size() - 1);
        int from = near(0, 300);
        int to = near(from, from + 300);
        int w = near(0, 2);
        hold("laid " + i + " " + j, () -> x.laid(i, j, from, to, w), () -> y.laid(i, j, from, to, w));
    }

    /** Now and then keeps a likeness of what there is first: others would seldom be alike. */
    private static void alikes() {
        if (below(2) == 0) {
            keepLikeness();
        }
        int i = near(0, y.portraits.size() - 1);
        int j = near(0, y.portraits.size() - 1);
        hold("alike " + i + " " + j, () -> x.alike(i, j), () -> y.alike(i, j));
        if (below(4) == 0) {
            int k = below(2) == 0 ? -1 : near(0, y.portraits.size() - 1);
            hold("kinds " + k, () -> x.kinds(k), () -> y.kinds(k));
        }
    }

    private static void keepLikeness() {
        hold("keep", () -> x.keep(), () -> y.keep());
        int time = below(60);
        int mirrors = below(4);
        boolean doubled = below(2) == 0;
        for (int p = 0; p < 4; p++) {
            int q = p;
            int half = (mirrors >> p / 2 & 1) * (y.pendulum(p, 6) / 2);
            int start = (y.pendulum(p, 3) + time + half) % 100;
            int size = doubled ? y.pendulum(p, 2) * 2 : y.pendulum(p, 2) / 2 * 2;
            hold("set start", () -> x.set(q, 1, start), () -> y.set(q, 1, start));
            hold("set size", () -> x.set(q, 2, size), () -> y.set(q, 2, size));
        }
        if (below(3) == 0) {
            swapSettings(below(2) == 0 ? new int[] {2, 3, 0, 1} : new int[] {1, 0, 3, 2});
        }
        hold("keep", () -> x.keep(), () -> y.keep());
        int last = y.portraits.size() - 1;
        if (last > 0) {
            hold("alike of last two", () -> x.alike(last - 1, last), () -> y.alike(last - 1, last));
            hold("alike of last two", () -> x.alike(last, last - 1), () -> y.alike(last, last - 1));
        }
    }

    private static void swapSettings(int[] order) {
        int[][] rows = Plain.copy(y.rows);
        for (int p = 0; p < 4; p++) {
            for (int what = 0; what < 3; what++) {
                int q = p;
                int w = what;
                int v = rows[what][order[p]];
                hold("set", () -> x.set(q, w, v), () -> y.set(q, w, v));
            }
        }
    }

    private static void points() {
        if (below(5) == 0) {
            hold("unpoint", () -> x.unpoint(), () -> y.unpoint());
            return;
        }
        int t = below(2) == 0 ? near(0, 9999) : below(1200);
        boolean real = t >= 0 && t <= 9999 && below(3) != 0;
        int along = real ? y.pen(t, 0) + shake() : near(-260, 260);
        int across = real ? y.pen(t, 1) + shake() : near(-260, 260);
        hold("point", () -> x.point(t, along, across), () -> y.point(t, along, across));
    }

    private static int shake() {
        return below(4) == 0 ? below(45) - 22 : 0;
    }

    private static void fitting() {
        int most = below(3) == 0 ? near(0, 5) : near(0, 2);
        int tolerance = near(0, 99);
        int w = near(0, 3);
        hold("fits", () -> x.fits(most, tolerance, w), () -> y.fits(most, tolerance, w));
        int a = near(1, 12);
        int b = near(1, 12);
        int c = near(0, 1);
        hold("chord " + a + " " + b + " " + c, () -> x.chord(a, b, c), () -> y.chord(a, b, c));
        if (below(2) == 0) {
            cartWentBy();
        }
        int d = near(0, 3);
        hold("cart " + d, () -> x.cart(d), () -> y.cart(d));
    }

    /** Points as a cart would have left them, now and then one of them a little off. */
    private static void cartWentBy() {
        for (int i = below(7); i > 0; i--) {
            hold("unpoint", () -> x.unpoint(), () -> y.unpoint());
        }
        int cart = below(1000);
        int[] way = {below(23) - 11 + 10 * (below(3) - 1), below(4) == 0 ? 0 : below(41) - 20};
        int spoilt = below(40);
        for (int i = below(7); i > 0; i--) {
            int t = below(4) == 0 ? cart - below(2) : below(1100);
            if (t < 0) {
                continue;
            }
            int along = y.penWithoutCarts(t, 0) + (t >= cart ? way[0] : 0) + (i == spoilt ? 1 : 0);
            int across = y.penWithoutCarts(t, 1) + (t >= cart ? way[1] : 0);
            hold("point", () -> x.point(t, along, across), () -> y.point(t, along, across));
        }
        for (int what = 0; what < 4; what++) {
            int w = what;
            hold("cart " + w, () -> x.cart(w), () -> y.cart(w));
        }
    }

    private static void parish() {
        if (below(12) == 0) {
            hold("forget", () -> x.forget(), () -> y.forget());
        }
        int day = below(2) == 0 ? near(0, 364) : near(100, 120);
        hold("birthday " + day, () -> x.birthday(day), () -> y.birthday(day));
        if (below(6) == 0) {
            int w = near(0, 1);
            hold("factor " + w, () -> x.factor(w), () -> y.factor(w));
        }
    }

    private static void evening() {
        int kept = y.portraits.size();
        int all = (1 << kept) - 1;
        int set = near(0, kept > 7 && below(10) != 0 ? all / 4 : all);
        hold("evening " + set, () -> x.evening(set), () -> y.evening(set));
        for (int i = -2; i < 9; i++) {
            int j = i;
            hold("drawing " + j, () -> x.drawing(j), () -> y.drawing(j));
        }
    }
}
