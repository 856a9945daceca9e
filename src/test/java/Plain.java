import java.util.ArrayList;
import java.util.Arrays;
import java.util.HashSet;
import java.util.List;
import java.util.NoSuchElementException;
import java.util.Set;
import java.util.TreeMap;
import java.util.regex.Matcher;
import java.util.regex.Pattern;

/** The document once more, word by word and by trying all there is, to be held against PenSwings. */
final class Plain {
    static final class Fault extends RuntimeException {
        private static final long serialVersionUID = 1L;
        final int what;
        final int place;

        Fault(int what, int place) {
            this.what = what;
            this.place = place;
        }
    }

    static final class Spent extends RuntimeException {
        private static final long serialVersionUID = 1L;
    }

    /** PENNIES, STARTS, SIZES: [what][pendulum]. */
    static int[][] copy(int[][] rows) {
        return new int[][] {rows[0].clone(), rows[1].clone(), rows[2].clone()};
    }

    record Cart(int tick, int along, int across) {
    }

    record Point(int tick, int along, int across) {
    }

    record Token(String text, int place) {
        boolean isNumber() {
            return text.matches("[0-9]+");
        }

        boolean isWord() {
            return text.matches("[a-z]+");
        }
    }

    record Act(String verb, int number, int change, List<String> test, List<Act> block, List<Act> other) {
    }

    String tape = "";
    int place = -1;
    int told = 0;
    int[] kind = new int[4];
    int[] length = {2, 2, 2, 2};
    int[] loss = new int[4];
    int[][] rows = new int[3][4];
    List<Cart> carts = new ArrayList<>();
    List<int[][]> portraits = new ArrayList<>();
    List<Point> points = new ArrayList<>();
    List<Integer> birthdays = new ArrayList<>();
    List<Act> score = new ArrayList<>();
    int[] status = new int[5];
    List<Integer> eveningRow = null;
    int eveningTea = 0;
    int[][] imageRows = null;
    List<int[][]> imagePortraits;
    List<Point> imagePoints;
    List<Integer> imageBirthdays;

    // ---- texts

    private List<Token> tokens;
    private int next;
    private int textLength;

    private void tokenize(String text) {
        tokens = new ArrayList<>();
        next = 0;
        textLength = text.length();
        Matcher m = Pattern.compile("[a-z]+|[0-9]+|[^ \n]").matcher(text);
        while (m.find()) {
            tokens.add(new Token(m.group(), m.start()));
        }
    }

    private Token look() {
        return next < tokens.size() ? tokens.get(next) : new Token("", textLength);
    }

    private boolean sees(String text) {
        return look().text().equals(text);
    }

    private Token expect(String... one) {
        if (!Arrays.asList(one).contains(look().text())) {
            throw new Fault(1, look().place());
        }
        return tokens.get(next++);
    }

    private int number(int least, int most, boolean below) {
        Token t = look();
        if (!t.isNumber()) {
            throw new Fault(1, t.place());
        }
        if (t.text().length() > 3) {
            throw new Fault(2, t.place());
        }
        int v = Integer.parseInt(t.text()) * (below ? -1 : 1);
        if (v < least || v > most) {
            throw new Fault(2, t.place());
        }
        next++;
        return v;
    }

    private int signed(int most) {
        boolean below = sees("-");
        if (below) {
            next++;
        }
        return number(-most, most, below);
    }

    private String begin(int n) {
        if (n < 0 || n > tape.length()) {
            throw new IllegalArgumentException();
        }
        String text = tape.substring(0, n);
        tape = "";
        place = -1;
        tokenize(text);
        return text;
    }

    private int fault(Fault f) {
        place = f.place;
        status[0]++;
        return f.what;
    }

    int feed(int a, int b, int c, int d, int e) {
        if (tape.length() + 20 > 400) {
            return -1;
        }
        StringBuilder s = new StringBuilder(tape);
        for (int w : new int[] {a, b, c, d, e}) {
            for (int i = 3; i >= 0; i--) {
                s.append((char) (w >> 8 * i & 255));
            }
        }
        tape = s.toString();
        return tape.length();
    }

    int swings(int n) {
        begin(n);
        Plain fresh = new Plain();
        try {
            boolean pennies = false;
            while (!sees("")) {
                Token t = look();
                String word = expect("pendulum", "cart", "pennies").text();
                if (word.equals("pendulum")) {
                    if (fresh.told == 4) {
                        throw new Fault(2, t.place());
                    }
                    int p = fresh.told++;
                    fresh.kind[p] = List.of("even", "bowl", "kick").indexOf(expect("even", "bowl", "kick").text());
                    fresh.length[p] = number(2, 40, false);
                    fresh.rows[2][p] = number(0, 90, false);
                    fresh.rows[1][p] = number(0, 99, false);
                    fresh.loss[p] = number(0, 99, false);
                } else if (word.equals("cart")) {
                    if (fresh.carts.size() == 4) {
                        throw new Fault(2, t.place());
                    }
                    int tick = number(0, 999, false);
                    int along = signed(20);
                    fresh.carts.add(new Cart(tick, along, signed(20)));
                } else {
                    if (pennies) {
                        throw new Fault(3, t.place());
                    }
                    pennies = true;
                    for (int p = 0; p < 4; p++) {
                        fresh.rows[0][p] = number(0, 9, false);
                    }
                }
                expect(";");
            }
        } catch (Fault f) {
            return fault(f);
        }
        told = fresh.told;
        kind = fresh.kind;
        length = fresh.length;
        loss = fresh.loss;
        rows = fresh.rows;
        carts = fresh.carts;
        portraits = new ArrayList<>();
        points = new ArrayList<>();
        birthdays = new ArrayList<>();
        score = new ArrayList<>();
        eveningRow = null;
        imageRows = null;
        return 0;
    }

    int score(int n) {
        begin(n);
        try {
            List<Act> acts = acts(0);
            if (!sees("")) {
                throw new Fault(1, look().place());
            }
            score = acts;
            return 0;
        } catch (Fault f) {
            return fault(f);
        }
    }

    private List<Act> acts(int within) {
        List<Act> acts = new ArrayList<>();
        while (!sees("") && !sees(")")) {
            Token t = look();
            String verb = expect("draw", "lift", "penny", "size", "turn", "repeat", "when").text();
            if ((verb.equals("repeat") || verb.equals("when")) && within == 5) {
                throw new Fault(2, t.place());
            }
            int number = 0;
            int change = 0;
            List<String> test = null;
            List<Act> block = null;
            List<Act> other = null;
            if (verb.equals("draw") || verb.equals("lift")) {
                number = number(1, 200, false);
            } else if (verb.equals("penny") || verb.equals("size")) {
                number = number(0, 3, false);
                change = signed(verb.equals("penny") ? 9 : 90);
            } else if (verb.equals("repeat")) {
                number = number(0, 20, false);
                block = block(within + 1);
            } else if (verb.equals("when")) {
                test = test(0);
                block = block(within + 1);
                if (sees("else")) {
                    next++;
                    other = block(within + 1);
                }
            }
            acts.add(new Act(verb, number, change, test, block, other));
        }
        return acts;
    }

    private List<Act> block(int within) {
        expect("(");
        List<Act> acts = acts(within);
        expect(")");
        return acts;
    }

    private List<String> test(int nots) {
        Token t = look();
        List<String> words = new ArrayList<>();
        words.add(expect("not", "marked", "right", "above", "loud").text());
        if (t.text().equals("not")) {
            if (nots == 4) {
                throw new Fault(2, t.place());
            }
            words.addAll(test(nots + 1));
        } else if (t.text().equals("loud")) {
            words.add("" + number(0, 3, false));
        }
        return words;
    }

    // ---- the pen

    private static int period(Plain x, int[][] rows, int p) {
        return x.length[p] + rows[0][p];
    }

    private int at(int[][] rows, int p, int t) {
        int period = period(this, rows, p);
        int u = (t + rows[1][p]) % period;
        int s = rows[2][p];
        for (int gone = period; gone <= t && s > 0 && loss[p] > 0; gone += period) {
            s = s * (100 - loss[p]) / 100;
        }
        if (kind[p] == 0) {
            if (4 * u <= period) {
                return 4 * u * s / period;
            }
            if (4 * u <= 3 * period) {
                return (2 * period - 4 * u) * s / period;
            }
            return (4 * u - 4 * period) * s / period;
        }
        if (kind[p] == 1) {
            int h = 2 * u;
            if (h <= period) {
                return 4 * h * (period - h) * s / (period * period);
            }
            h -= period;
            return -(4 * h * (period - h) * s / (period * period));
        }
        return 2 * u < period ? s : -s;
    }

    private int pen(int[][] rows, int t, int axis, boolean withCarts) {
        int place = at(rows, 2 * axis, t) + at(rows, 2 * axis + 1, t);
        for (Cart c : carts) {
            if (withCarts && c.tick() <= t) {
                place += axis == 0 ? c.along() : c.across();
            }
        }
        return place;
    }

    int penWithoutCarts(int t, int axis) {
        return pen(rows, t, axis, false);
    }

    private static int cell(int along, int across) {
        return 27 * ((across + 260) / 20) + (along + 260) / 20;
    }

    private int cellAt(int[][] rows, int t, boolean withCarts) {
        return cell(pen(rows, t, 0, withCarts), pen(rows, t, 1, withCarts));
    }

    private static void what(int what, int most) {
        if (what < 0 || what > most) {
            throw new NoSuchElementException();
        }
    }

    private static void tick(int t) {
        if (t < 0 || t > 9999) {
            throw new IllegalArgumentException();
        }
    }

    private static void span(int from, int to) {
        tick(from);
        tick(to);
        if (to < from || to > from + 999) {
            throw new IllegalArgumentException();
        }
    }

    int count(int what) {
        what(what, 10);
        int[] all = {told, carts.size(), portraits.size(), points.size(), birthdays.size(), tape.length(),
            status[0], status[1], status[2], status[3], status[4]};
        return all[what];
    }

    int pendulum(int p, int what) {
        what(p, 3);
        what(what, 6);
        return new int[] {kind[p], length[p], rows[2][p], rows[1][p], loss[p], rows[0][p], length[p] + rows[0][p]}[what];
    }

    int set(int p, int what, int v) {
        what(p, 3);
        what(what, 2);
        if (v < 0 || v > new int[] {9, 99, 90}[what]) {
            status[1]++;
            return -1;
        }
        int was = rows[what][p];
        rows[what][p] = v;
        return was;
    }

    int swing(int p, int t) {
        what(p, 3);
        tick(t);
        return at(rows, p, t);
    }

    int pen(int t, int axis) {
        what(axis, 1);
        tick(t);
        return pen(rows, t, axis, true);
    }

    private Set<Integer> cells(int[][] rows, int from, int to, boolean withCarts) {
        Set<Integer> cells = new HashSet<>();
        for (int t = from; t <= to; t++) {
            cells.add(cellAt(rows, t, withCarts));
        }
        return cells;
    }

    int drawn(int from, int to) {
        span(from, to);
        return cells(rows, from, to, true).size();
    }

    int inCell(int cell, int from, int to) {
        what(cell, 728);
        span(from, to);
        for (int t = from; t <= to; t++) {
            if (cellAt(rows, t, true) == cell) {
                return t;
            }
        }
        return -1;
    }

    private int round(int[][] rows) {
        int round = 1;
        for (int p = 0; p < 4; p++) {
            if (rows[2][p] > 0) {
                int before = round;
                while (round % period(this, rows, p) != 0) {
                    round += before;
                }
            }
        }
        return round;
    }

    int round() {
        return round(rows);
    }

    int off() {
        int t = round();
        return Math.abs(pen(rows, t, 0, false) - pen(rows, 0, 0, false))
            + Math.abs(pen(rows, t, 1, false) - pen(rows, 0, 1, false));
    }

    // ---- portraits

    int keep() {
        if (portraits.size() == 8) {
            status[2]++;
            return -1;
        }
        portraits.add(copy(rows));
        return portraits.size() - 1;
    }

    int take(int portrait) {
        what(portrait, portraits.size() - 1);
        rows = copy(portraits.get(portrait));
        return 0;
    }

    int alike(int first, int second) {
        what(first, portraits.size() - 1);
        what(second, portraits.size() - 1);
        int[][] a = portraits.get(first);
        int[][] b = portraits.get(second);
        int round = round(b);
        if (round > 5040) {
            return -2;
        }
        List<Integer> from = loud(a);
        List<Integer> to = loud(b);
        if (from.size() != to.size()) {
            return 0;
        }
        for (int time = 0; time < round; time++) {
            for (int way = 0; way < 8; way++) {
                if (becomes(a, b, from, new ArrayList<>(), time, way)) {
                    return 1;
                }
            }
        }
        return 0;
    }

    private static List<Integer> loud(int[][] rows) {
        List<Integer> loud = new ArrayList<>();
        for (int p = 0; p < 4; p++) {
            if (rows[2][p] > 0) {
                loud.add(p);
            }
        }
        return loud;
    }

    /** Tries each other pendulum of b for the next one of a; way: 1 turned, 2 mirrored along, 4 mirrored across. */
    private boolean becomes(int[][] a, int[][] b, List<Integer> from, List<Integer> taken, int time, int way) {
        int done = taken.size();
        if (done == from.size()) {
            return true;
        }
        int p = from.get(done);
        for (int q = 0; q < 4; q++) {
            boolean sameAxis = p / 2 == q / 2;
            if (b[2][q] == 0 || taken.contains(q) || sameAxis == ((way & 1) != 0)) {
                continue;
            }
            int period = period(this, a, p);
            boolean mirrored = (way & (q < 2 ? 2 : 4)) != 0;
            if (kind[p] != kind[q] || period != period(this, b, q) || mirrored && period % 2 == 1) {
                continue;
            }
            if ((a[1][p] + time + (mirrored ? period / 2 : 0)) % period != b[1][q] % period) {
                continue;
            }
            if (done > 0 && a[2][p] * b[2][taken.get(0)] != a[2][from.get(0)] * b[2][q]) {
                continue;
            }
            List<Integer> more = new ArrayList<>(taken);
            more.add(q);
            if (becomes(a, b, from, more, time, way)) {
                return true;
            }
        }
        return false;
    }

    int kinds(int portrait) {
        if (portrait != -1) {
            what(portrait, portraits.size() - 1);
        }
        int[] kindOf = new int[portraits.size()];
        Set<Integer> all = new HashSet<>();
        for (int i = 0; i < kindOf.length; i++) {
            kindOf[i] = i;
            for (int j = i - 1; j >= 0; j--) {
                if (alike(j, i) == 1) {
                    kindOf[i] = kindOf[j];
                }
            }
            all.add(kindOf[i]);
        }
        return portrait == -1 ? all.size() : kindOf[portrait];
    }

    int laid(int first, int second, int from, int to, int what) {
        what(first, portraits.size() - 1);
        what(second, portraits.size() - 1);
        what(what, 2);
        span(from, to);
        Set<Integer> a = cells(portraits.get(first), from, to, false);
        Set<Integer> b = cells(portraits.get(second), from, to, false);
        Set<Integer> both = new HashSet<>(a);
        both.retainAll(b);
        return what == 0 ? both.size() : what == 1 ? a.size() - both.size() : b.size() - both.size();
    }

    // ---- points

    int point(int t, int along, int across) {
        if (points.size() == 6 || t < 0 || t > 9999 || Math.abs((long) along) > 260 || Math.abs((long) across) > 260) {
            status[3]++;
            return -1;
        }
        points.add(new Point(t, along, across));
        return points.size();
    }

    int unpoint() {
        if (points.isEmpty()) {
            return -1;
        }
        points.remove(points.size() - 1);
        return points.size();
    }

    int fits(int most, int tolerance, int what) {
        what(what, 3);
        if (most < 0 || most > 5 || tolerance < 0 || tolerance > 99) {
            throw new IllegalArgumentException();
        }
        int fit = 0;
        int first = -1;
        int nearest = -1;
        int least = Integer.MAX_VALUE;
        for (int row = 0; row <= 5555; row++) {
            int[] figures = {row / 1000, row / 100 % 10, row / 10 % 10, row % 10};
            if (Arrays.stream(figures).max().getAsInt() > most) {
                continue;
            }
            int[][] tried = copy(rows);
            tried[0] = figures;
            int sum = 0;
            boolean all = true;
            for (Point p : points) {
                int off = Math.abs(p.along() - pen(tried, p.tick(), 0, true))
                    + Math.abs(p.across() - pen(tried, p.tick(), 1, true));
                sum += off;
                all = all && off <= tolerance;
            }
            if (all) {
                fit++;
                first = first == -1 ? row : first;
            }
            if (sum < least) {
                least = sum;
                nearest = row;
            }
        }
        return new int[] {fit, first, nearest, least}[what];
    }

    int chord(int a, int b, int what) {
        what(what, 1);
        if (a < 1 || a > 12 || b < 1 || b > 12) {
            throw new IllegalArgumentException();
        }
        TreeMap<Integer, Integer> found = new TreeMap<>();
        for (int row = 99; row >= 0; row--) {
            if ((length[0] + row / 10) * b == (length[2] + row % 10) * a) {
                found.put(Math.abs(row / 10 - rows[0][0]) + Math.abs(row % 10 - rows[0][2]), row);
            }
        }
        return found.isEmpty() ? -1 : what == 0 ? found.firstKey() : found.firstEntry().getValue();
    }

    int cart(int what) {
        what(what, 3);
        int fit = 0;
        int least = -1;
        int[] way = {0, 0};
        for (int c = 0; c <= 999; c++) {
            Set<List<Integer>> ahead = new HashSet<>();
            Set<List<Integer>> behind = new HashSet<>();
            for (Point p : points) {
                List<Integer> off = List.of(p.along() - pen(rows, p.tick(), 0, false),
                    p.across() - pen(rows, p.tick(), 1, false));
                (p.tick() < c ? ahead : behind).add(off);
            }
            ahead.remove(List.of(0, 0));
            if (!ahead.isEmpty() || behind.size() != 1 || behind.contains(List.of(0, 0))) {
                continue;
            }
            List<Integer> one = behind.iterator().next();
            if (Math.abs(one.get(0)) > 20 || Math.abs(one.get(1)) > 20) {
                continue;
            }
            if (fit == 0) {
                least = c;
                way = new int[] {one.get(0), one.get(1)};
            }
            fit++;
        }
        return new int[] {fit, least, way[0], way[1]}[what];
    }

    // ---- the parish

    int birthday(int day) {
        if (birthdays.size() == 10 || day < 0 || day > 364) {
            status[4]++;
            return -1;
        }
        birthdays.add(day);
        return birthdays.size();
    }

    int forget() {
        int were = birthdays.size();
        birthdays.clear();
        return were;
    }

    int factor(int what) {
        what(what, 1);
        int best = -1;
        int most = -1;
        for (int f = 1; f <= 999; f++) {
            int fewest = 4;
            boolean good = true;
            for (int a : birthdays) {
                for (int b : birthdays) {
                    String one = String.format("%04d", a * f % 10000);
                    String two = String.format("%04d", b * f % 10000);
                    if (a == b) {
                        continue;
                    }
                    good = good && !one.equals(two);
                    if (Math.abs(a - b) <= 7) {
                        int unlike = 0;
                        for (int i = 0; i < 4; i++) {
                            unlike += one.charAt(i) != two.charAt(i) ? 1 : 0;
                        }
                        fewest = Math.min(fewest, unlike);
                    }
                }
            }
            if (good && fewest > most) {
                most = fewest;
                best = f;
            }
        }
        return what == 0 ? best : most;
    }

    // ---- the evening

    int evening(int set) {
        if (set < 1 || set >= 1 << portraits.size()) {
            throw new IllegalArgumentException();
        }
        List<List<Integer>> orders = new ArrayList<>();
        orders(set, new ArrayList<>(), orders);
        int least = Integer.MAX_VALUE;
        for (List<Integer> order : orders) {
            for (int tea = 0; tea < order.size(); tea++) {
                int moved = 0;
                int[] on = rows[0];
                for (int i = 0; i < order.size(); i++) {
                    if (tea > 0 && i == tea) {
                        on = new int[4];
                    }
                    int[] due = portraits.get(order.get(i))[0];
                    for (int p = 0; p < 4; p++) {
                        moved += Math.abs(on[p] - due[p]);
                    }
                    on = due;
                }
                if (moved < least) {
                    least = moved;
                    eveningRow = order;
                    eveningTea = tea;
                }
            }
        }
        return least;
    }

    private void orders(int set, List<Integer> order, List<List<Integer>> all) {
        if (set == 0) {
            all.add(new ArrayList<>(order));
        }
        for (int i = 0; i < 8; i++) {
            if ((set >> i & 1) == 1) {
                order.add(i);
                orders(set & ~(1 << i), order, all);
                order.remove(order.size() - 1);
            }
        }
    }

    int drawing(int i) {
        if (eveningRow == null || i < -1 || i >= eveningRow.size()) {
            throw new NoSuchElementException();
        }
        return i == -1 ? eveningTea : eveningRow.get(i);
    }

    int image() {
        imageRows = copy(rows);
        imagePortraits = new ArrayList<>(portraits);
        imagePoints = new ArrayList<>(points);
        imageBirthdays = new ArrayList<>(birthdays);
        return 0;
    }

    int restore() {
        if (imageRows == null) {
            return 0;
        }
        rows = copy(imageRows);
        portraits = new ArrayList<>(imagePortraits);
        points = new ArrayList<>(imagePoints);
        birthdays = new ArrayList<>(imageBirthdays);
        return 1;
    }

    // ---- the score performed

    private int began;
    private int tick;
    private boolean turned;
    private int[][] playing;
    private int[] marks;

    private void perform() {
        began = 0;
        tick = 0;
        turned = false;
        playing = copy(rows);
        marks = new int[729];
        perform(score);
    }

    private int playedPen(int axis) {
        return pen(playing, tick, turned ? 1 - axis : axis, true);
    }

    private int playedCell() {
        return cell(playedPen(0), playedPen(1));
    }

    private void pass() {
        tick++;
        if (tick > 9999) {
            throw new Spent();
        }
    }

    private void perform(List<Act> acts) {
        for (Act act : acts) {
            if (began == 1000) {
                throw new Spent();
            }
            began++;
            int n = act.number();
            switch (act.verb()) {
                case "draw" -> {
                    for (int i = 0; i < n; i++) {
                        marks[playedCell()]++;
                        pass();
                    }
                }
                case "lift" -> {
                    for (int i = 0; i < n; i++) {
                        pass();
                    }
                }
                case "penny" -> playing[0][n] = Math.min(9, Math.max(0, playing[0][n] + act.change()));
                case "size" -> playing[2][n] = Math.min(90, Math.max(0, playing[2][n] + act.change()));
                case "turn" -> turned = !turned;
                case "repeat" -> {
                    for (int i = 0; i < n; i++) {
                        perform(act.block());
                    }
                }
                default -> {
                    if (holds(act.test())) {
                        perform(act.block());
                    } else if (act.other() != null) {
                        perform(act.other());
                    }
                }
            }
        }
    }

    private boolean holds(List<String> test) {
        switch (test.get(0)) {
            case "not":
                return !holds(test.subList(1, test.size()));
            case "marked":
                return marks[playedCell()] > 0;
            case "right":
                return playedPen(0) > 0;
            case "above":
                return playedPen(1) > 0;
            default:
                return at(playing, Integer.parseInt(test.get(1)), tick) != 0;
        }
    }

    int performed(int what) {
        what(what, 3);
        try {
            perform();
        } catch (Spent s) {
            return -2;
        }
        int marked = (int) Arrays.stream(marks).filter(m -> m > 0).count();
        return new int[] {began, marked, tick, playedCell()}[what];
    }

    int marks(int cell) {
        what(cell, 728);
        try {
            perform();
        } catch (Spent s) {
            return -2;
        }
        return marks[cell];
    }
}
