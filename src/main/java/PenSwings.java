import java.util.Arrays;
import java.util.NoSuchElementException;

/** Four pendulums and a pen, its portraits and its scores. The document tells what each call answers. */
public final class PenSwings {
    public static final int NONE = -1;

    private static final int SPENT = -2;
    private static final int LAST_TICK = 9999;
    private static final int LONGEST_SPAN = 999;
    private static final int LONGEST_ALIKE = 5040;
    private static final int SIDE = 27;
    private static final int CELLS = SIDE * SIDE;

    private static final int PENDULUMS = 4;
    private static final int MOST_CARTS = 4;
    private static final int MOST_PORTRAITS = 8;
    private static final int MOST_POINTS = 6;
    private static final int MOST_BIRTHDAYS = 10;
    private static final int MOST_PENNIES = 9;
    private static final int MOST_START = 99;
    private static final int MOST_SIZE = 90;

    // A row of settings has the four PENNIES, then the four STARTS, then the four SIZES, as set() numbers them.
    private static final int STARTS = PENDULUMS;
    private static final int SIZES = 2 * PENDULUMS;
    private static final int SETTINGS = 3 * PENDULUMS;

    private static final int STATUS_TEXTS = 0;
    private static final int STATUS_SET = 1;
    private static final int STATUS_PORTRAITS = 2;
    private static final int STATUS_POINTS = 3;
    private static final int STATUS_BIRTHDAYS = 4;
    private static final int STATUSES = 5;

    private final Tape tape;
    private final Frame now;
    private final Frame spare;
    private final Frame other;
    private final Holdings held;
    private final Holdings pictured;
    private boolean hasImage;
    private Score acts;
    private Score spareActs;
    private final Performance performance;
    private final Likeness likeness;
    private final Fitting fitting;
    private final Evening plan;
    private final Parish parish;
    private final int[] seen;
    private final int[] refused;
    // Counts what may change an answer that is kept for the next questions.
    private int changes;

    public PenSwings() {
        tape = new Tape();
        now = new Frame();
        spare = new Frame();
        other = new Frame();
        held = new Holdings();
        pictured = new Holdings();
        hasImage = false;
        acts = new Score();
        spareActs = new Score();
        performance = new Performance();
        likeness = new Likeness();
        fitting = new Fitting();
        plan = new Evening();
        parish = new Parish();
        seen = new int[CELLS];
        refused = new int[STATUSES];
        changes = 0;
    }

    public int feed(int a, int b, int c, int d, int e) {
        if (!tape.hasRoom()) {
            return NONE;
        }
        tape.lay(a);
        tape.lay(b);
        tape.lay(c);
        tape.lay(d);
        tape.lay(e);
        return tape.length;
    }

    public int swings(int n) throws IllegalArgumentException {
        needBytes(n);
        tape.begin(n);
        if (SwingsText.read(tape, spare)) {
            now.copy(spare);
            held.clear();
            acts.size = 0;
            plan.clear();
            hasImage = false;
        }
        return endOfText();
    }

    public int score(int n) throws IllegalArgumentException {
        needBytes(n);
        tape.begin(n);
        if (spareActs.read(tape)) {
            Score old = acts;
            acts = spareActs;
            spareActs = old;
        }
        return endOfText();
    }

    public int performed(int what) throws NoSuchElementException {
        needWhat(what, 3);
        performance.play(acts, now, changes);
        if (performance.spent) {
            return SPENT;
        }
        switch (what) {
            case 0:
                return performance.begun;
            case 1:
                return performance.markedCells;
            case 2:
                return performance.tick;
            default:
                return performance.cell();
        }
    }

    public int marks(int cell) throws NoSuchElementException {
        needCell(cell);
        performance.play(acts, now, changes);
        return performance.spent ? SPENT : performance.marksOf[cell];
    }

    public int fault() {
        return tape.place;
    }

    public int count(int what) throws NoSuchElementException {
        needWhat(what, 5 + STATUSES);
        switch (what) {
            case 0:
                return now.told;
            case 1:
                return now.carts;
            case 2:
                return held.portraits;
            case 3:
                return held.points;
            case 4:
                return held.birthdays;
            case 5:
                return tape.length;
            default:
                return refused[what - 6];
        }
    }

    public int pendulum(int pendulum, int what) throws NoSuchElementException {
        needPendulum(pendulum);
        needWhat(what, 6);
        switch (what) {
            case 0:
                return now.kinds[pendulum];
            case 1:
                return now.lengths[pendulum];
            case 2:
                return now.settings[SIZES + pendulum];
            case 3:
                return now.settings[STARTS + pendulum];
            case 4:
                return now.losses[pendulum];
            case 5:
                return now.settings[pendulum];
            default:
                return now.period(pendulum);
        }
    }

    public int set(int pendulum, int what, int v) throws NoSuchElementException {
        needPendulum(pendulum);
        needWhat(what, 2);
        if (v < 0 || v > mostOfSetting(what)) {
            return refuse(STATUS_SET);
        }
        int place = PENDULUMS * what + pendulum;
        int was = now.settings[place];
        now.settings[place] = v;
        changes++;
        return was;
    }

    public int swing(int pendulum, int tick) throws NoSuchElementException, IllegalArgumentException {
        needPendulum(pendulum);
        needTick(tick);
        return now.where(pendulum, tick);
    }

    public int pen(int tick, int axis) throws NoSuchElementException, IllegalArgumentException {
        needWhat(axis, 1);
        needTick(tick);
        return now.penAt(tick, axis);
    }

    public int drawn(int from, int to) throws IllegalArgumentException {
        needSpan(from, to);
        Arrays.fill(seen, 0);
        markSeen(now, from, to, 1);
        return cellsSeen(1);
    }

    public int inCell(int cell, int from, int to) throws NoSuchElementException, IllegalArgumentException {
        needCell(cell);
        needSpan(from, to);
        for (int tick = from; tick <= to; tick++) {
            if (now.cellAt(tick) == cell) {
                return tick;
            }
        }
        return NONE;
    }

    public int round() {
        return now.ticksRound();
    }

    public int off() {
        int last = now.ticksRound();
        return Math.abs(now.swungTo(last, 0) - now.swungTo(0, 0)) + Math.abs(now.swungTo(last, 1) - now.swungTo(0, 1));
    }

    public int keep() {
        if (held.portraits >= MOST_PORTRAITS) {
            return refuse(STATUS_PORTRAITS);
        }
        int number = held.portraits;
        System.arraycopy(now.settings, 0, held.portraitRows, SETTINGS * number, SETTINGS);
        held.portraits = number + 1;
        return number;
    }

    public void take(int portrait) throws NoSuchElementException {
        needPortrait(portrait);
        takeInto(portrait, now);
        changes++;
    }

    public int alike(int first, int second) throws NoSuchElementException {
        needPortrait(first);
        needPortrait(second);
        return compare(first, second);
    }

    public int kinds(int portrait) throws NoSuchElementException {
        if (portrait != NONE) {
            needPortrait(portrait);
            return leastOfKind(portrait);
        }
        int found = 0;
        for (int i = 0; i < held.portraits; i++) {
            if (leastOfKind(i) == i) {
                found++;
            }
        }
        return found;
    }

    public int point(int tick, int along, int across) {
        if (held.points >= MOST_POINTS || !isTick(tick) || !isPlace(along) || !isPlace(across)) {
            return refuse(STATUS_POINTS);
        }
        int place = 3 * held.points;
        held.pointRows[place] = tick;
        held.pointRows[place + 1] = along;
        held.pointRows[place + 2] = across;
        held.points++;
        return held.points;
    }

    public int unpoint() {
        if (held.points == 0) {
            return NONE;
        }
        held.points--;
        return held.points;
    }

    public int fits(int most, int tolerance, int what) throws NoSuchElementException, IllegalArgumentException {
        needWhat(what, 3);
        needWithin(most, 0, Fitting.MOST_TRIED);
        needWithin(tolerance, 0, 99);
        spare.copy(now);
        fitting.findRows(spare, held, most, tolerance);
        switch (what) {
            case 0:
                return fitting.rows;
            case 1:
                return fitting.firstRow;
            case 2:
                return fitting.nearestRow;
            default:
                return fitting.nearestOff;
        }
    }

    public int chord(int a, int b, int what) throws NoSuchElementException, IllegalArgumentException {
        needWhat(what, 1);
        needWithin(a, 1, 12);
        needWithin(b, 1, 12);
        int fewest = NONE;
        int row = NONE;
        for (int first = 0; first <= MOST_PENNIES; first++) {
            for (int second = 0; second <= MOST_PENNIES; second++) {
                int moved = Math.abs(first - now.settings[0]) + Math.abs(second - now.settings[2]);
                boolean sounds = (now.lengths[0] + first) * b == (now.lengths[2] + second) * a;
                if (sounds && (fewest == NONE || moved < fewest)) {
                    fewest = moved;
                    row = 10 * first + second;
                }
            }
        }
        return what == 0 ? fewest : row;
    }

    public int cart(int what) throws NoSuchElementException {
        needWhat(what, 3);
        fitting.findCart(now, held);
        switch (what) {
            case 0:
                return fitting.cartTicks;
            case 1:
                return fitting.leastCart;
            case 2:
                return fitting.cartAlong;
            default:
                return fitting.cartAcross;
        }
    }

    public int birthday(int day) {
        if (held.birthdays >= MOST_BIRTHDAYS || day < 0 || day > 364) {
            return refuse(STATUS_BIRTHDAYS);
        }
        held.days[held.birthdays] = day;
        held.birthdays++;
        changes++;
        return held.birthdays;
    }

    public int forget() {
        int were = held.birthdays;
        held.birthdays = 0;
        changes++;
        return were;
    }

    public int factor(int what) throws NoSuchElementException {
        needWhat(what, 1);
        parish.findBest(held, changes);
        return what == 0 ? parish.best : parish.fewest;
    }

    public int laid(int first, int second, int from, int to, int what)
            throws NoSuchElementException, IllegalArgumentException {
        needPortrait(first);
        needPortrait(second);
        needWhat(what, 2);
        needSpan(from, to);
        Arrays.fill(seen, 0);
        markPortrait(first, from, to, 1);
        markPortrait(second, from, to, 2);
        return cellsSeen(what == 0 ? 3 : what);
    }

    public int evening(int portraits) throws IllegalArgumentException {
        needWithin(portraits, 1, (1 << held.portraits) - 1);
        return plan.make(portraits, held, now.settings);
    }

    public int drawing(int i) throws NoSuchElementException {
        if (plan.length == 0 || i < NONE || i >= plan.length) {
            throw new NoSuchElementException("no such drawing is kept");
        }
        return i == NONE ? plan.tea : plan.order[i];
    }

    public void image() {
        System.arraycopy(now.settings, 0, held.settings, 0, SETTINGS);
        pictured.copy(held);
        hasImage = true;
    }

    public boolean restore() {
        if (!hasImage) {
            return false;
        }
        held.copy(pictured);
        System.arraycopy(held.settings, 0, now.settings, 0, SETTINGS);
        changes++;
        return true;
    }

    private int endOfText() {
        tape.length = 0;
        changes++;
        if (tape.wrong != 0) {
            refused[STATUS_TEXTS]++;
        }
        return tape.wrong;
    }

    private int refuse(int status) {
        refused[status]++;
        return NONE;
    }

    private void takeInto(int portrait, Frame frame) {
        System.arraycopy(held.portraitRows, SETTINGS * portrait, frame.settings, 0, SETTINGS);
    }

    private void copyWith(int portrait, Frame frame) {
        frame.copy(now);
        takeInto(portrait, frame);
    }

    private int compare(int first, int second) {
        copyWith(first, spare);
        copyWith(second, other);
        if (other.ticksRound() > LONGEST_ALIKE) {
            return SPENT;
        }
        return likeness.joins(spare, other) ? 1 : 0;
    }

    // Being alike goes from one to the next, so the least one that is alike is the least of the kind.
    private int leastOfKind(int portrait) {
        for (int ahead = 0; ahead < portrait; ahead++) {
            if (compare(ahead, portrait) == 1) {
                return ahead;
            }
        }
        return portrait;
    }

    private void markSeen(Frame frame, int from, int to, int bit) {
        for (int tick = from; tick <= to; tick++) {
            int cell = frame.cellAt(tick);
            if (isCell(cell)) {
                seen[cell] |= bit;
            }
        }
    }

    private void markPortrait(int portrait, int from, int to, int bit) {
        copyWith(portrait, spare);
        spare.carts = 0;
        markSeen(spare, from, to, bit);
    }

    private int cellsSeen(int bits) {
        int found = 0;
        for (int cell = 0; cell < CELLS; cell++) {
            if (seen[cell] == bits) {
                found++;
            }
        }
        return found;
    }

    private void needBytes(int n) {
        if (n < 0 || n > tape.length) {
            throw new IllegalArgumentException("the tape has not so many bytes");
        }
    }

    private void needPortrait(int portrait) {
        if (portrait < 0 || portrait >= held.portraits) {
            throw new NoSuchElementException("no such portrait");
        }
    }

    private static void needPendulum(int pendulum) {
        if (pendulum < 0 || pendulum >= PENDULUMS) {
            throw new NoSuchElementException("no such pendulum");
        }
    }

    private static void needWhat(int what, int most) {
        if (what < 0 || what > most) {
            throw new NoSuchElementException("no such question");
        }
    }

    private static void needCell(int cell) {
        if (!isCell(cell)) {
            throw new NoSuchElementException("no such cell");
        }
    }

    private static void needTick(int tick) {
        if (!isTick(tick)) {
            throw new IllegalArgumentException("no tick");
        }
    }

    private static void needSpan(int from, int to) {
        needTick(from);
        needTick(to);
        if (to < from || to - from > LONGEST_SPAN) {
            throw new IllegalArgumentException("no such span of ticks");
        }
    }

    private static void needWithin(int number, int least, int most) {
        if (number < least || number > most) {
            throw new IllegalArgumentException("a number is not as told");
        }
    }

    private static boolean isTick(int tick) {
        return tick >= 0 && tick <= LAST_TICK;
    }

    private static boolean isCell(int cell) {
        return cell >= 0 && cell < CELLS;
    }

    private static boolean isPlace(int place) {
        return place >= -260 && place <= 260;
    }

    private static int mostOfSetting(int what) {
        switch (what) {
            case 0:
                return MOST_PENNIES;
            case 1:
                return MOST_START;
            default:
                return MOST_SIZE;
        }
    }

    private static int cellOf(int along, int across) {
        return SIDE * ((across + 260) / 20) + (along + 260) / 20;
    }

    private static int greatestCommon(int a, int b) {
        int whole = a;
        int part = b;
        // Some forty steps are enough for any two ints.
        for (int step = 0; step < 100 && part != 0; step++) {
            int left = whole % part;
            whole = part;
            part = left;
        }
        return whole;
    }

    /** What is kept beside the pendulums, so that an image of it is one copy. */
    private static final class Holdings {
        // Those of the image alone: from call to call the frame has them.
        final int[] settings = new int[SETTINGS];
        int portraits;
        final int[] portraitRows = new int[MOST_PORTRAITS * SETTINGS];
        int points;
        final int[] pointRows = new int[MOST_POINTS * 3];
        int birthdays;
        final int[] days = new int[MOST_BIRTHDAYS];

        void clear() {
            portraits = 0;
            points = 0;
            birthdays = 0;
        }

        void copy(Holdings from) {
            System.arraycopy(from.settings, 0, settings, 0, settings.length);
            portraits = from.portraits;
            System.arraycopy(from.portraitRows, 0, portraitRows, 0, portraitRows.length);
            points = from.points;
            System.arraycopy(from.pointRows, 0, pointRows, 0, pointRows.length);
            birthdays = from.birthdays;
            System.arraycopy(from.days, 0, days, 0, days.length);
        }
    }

    /** The pendulums and the carts: where the pen is. */
    private static final class Frame {
        static final int EVEN = 0;
        static final int BOWL = 1;
        static final int KICK = 2;
        // A LOSS takes 1 at least of a SIZE of 90 at most: behind so many periods nothing more changes.
        private static final int FADES = MOST_SIZE + 1;

        final int[] kinds = new int[PENDULUMS];
        final int[] lengths = new int[PENDULUMS];
        final int[] losses = new int[PENDULUMS];
        final int[] settings = new int[SETTINGS];
        int told;
        int carts;
        final int[] cartTicks = new int[MOST_CARTS];
        final int[] cartWays = new int[2 * MOST_CARTS];
        private final int[] faded = new int[PENDULUMS * FADES];
        // The SIZE and LOSS that each row of faded was made of; a row of 0 is right for 0.
        private final int[] fadedSizes = new int[PENDULUMS];
        private final int[] fadedLosses = new int[PENDULUMS];

        Frame() {
            Arrays.fill(lengths, 2);
        }

        void clear() {
            Arrays.fill(kinds, EVEN);
            Arrays.fill(lengths, 2);
            Arrays.fill(losses, 0);
            Arrays.fill(settings, 0);
            told = 0;
            carts = 0;
        }

        void copy(Frame from) {
            System.arraycopy(from.kinds, 0, kinds, 0, PENDULUMS);
            System.arraycopy(from.lengths, 0, lengths, 0, PENDULUMS);
            System.arraycopy(from.losses, 0, losses, 0, PENDULUMS);
            System.arraycopy(from.settings, 0, settings, 0, SETTINGS);
            told = from.told;
            carts = from.carts;
            System.arraycopy(from.cartTicks, 0, cartTicks, 0, MOST_CARTS);
            System.arraycopy(from.cartWays, 0, cartWays, 0, 2 * MOST_CARTS);
        }

        int period(int p) {
            return lengths[p] + settings[p];
        }

        int where(int p, int tick) {
            int period = period(p);
            if (settings[SIZES + p] == 0 || period < 1 || tick < 0) {
                return 0;
            }
            int u = (tick + settings[STARTS + p]) % period;
            int size = settings[SIZES + p];
            if (losses[p] != 0) {
                fade(p);
                int gone = tick / period;
                size = faded[FADES * p + (gone < FADES ? gone : FADES - 1)];
            }
            switch (kinds[p]) {
                case EVEN:
                    return slope(4 * u, period) * size / period;
                case BOWL:
                    return arch(2 * u, period) * size / (period * period);
                default:
                    return 2 * u < period ? size : -size;
            }
        }

        private static int slope(int quarters, int period) {
            if (quarters <= period) {
                return quarters;
            }
            return quarters <= 3 * period ? 2 * period - quarters : quarters - 4 * period;
        }

        private static int arch(int h, int period) {
            if (h <= period) {
                return 4 * h * (period - h);
            }
            int below = h - period;
            return -4 * below * (period - below);
        }

        private void fade(int p) {
            int left = settings[SIZES + p];
            if (fadedSizes[p] == left && fadedLosses[p] == losses[p]) {
                return;
            }
            fadedSizes[p] = left;
            fadedLosses[p] = losses[p];
            for (int i = 0; i < FADES; i++) {
                faded[FADES * p + i] = left;
                left = left * (100 - losses[p]) / 100;
            }
        }

        int swungTo(int tick, int axis) {
            return where(2 * axis, tick) + where(2 * axis + 1, tick);
        }

        int shaken(int tick, int axis) {
            int way = 0;
            for (int i = 0; i < carts && i < MOST_CARTS; i++) {
                if (cartTicks[i] <= tick) {
                    way += cartWays[2 * i + axis];
                }
            }
            return way;
        }

        int penAt(int tick, int axis) {
            return where(2 * axis, tick) + where(2 * axis + 1, tick) + shaken(tick, axis);
        }

        int cellAt(int tick) {
            return cellOf(penAt(tick, 0), penAt(tick, 1));
        }

        int ticksRound() {
            int round = 1;
            for (int p = 0; p < PENDULUMS; p++) {
                int common = greatestCommon(round, period(p));
                if (settings[SIZES + p] > 0 && common > 0) {
                    round = round / common * period(p);
                }
            }
            return round;
        }
    }

    /** The bytes that were fed, and their tokens one by one, with the first fault among them. */
    private static final class Tape {
        static final int MOST_BYTES = 400;
        private static final int FED = 20;
        private static final int END = 0;
        private static final int WORD = 1;
        private static final int NUMBER = 2;
        // Any other byte: none that the grammar does not ask for can stand anywhere, so what it is need not be told.
        private static final int SIGN = 3;
        // More than any number of the grammar, in place of one of four digits or more.
        private static final int TOO_LONG = 1000;

        private final byte[] bytes = new byte[MOST_BYTES];
        int length;
        int wrong;
        int place = NONE;
        int taken;
        private int end;
        private int at;
        private int token;
        private int first;
        private int value;

        boolean hasRoom() {
            return length + FED <= MOST_BYTES;
        }

        void lay(int number) {
            for (int shift = 24; shift >= 0 && length < MOST_BYTES; shift -= 8) {
                bytes[length] = (byte) (number >>> shift);
                length++;
            }
        }

        void begin(int n) {
            end = Math.max(0, Math.min(n, length));
            at = 0;
            wrong = 0;
            place = NONE;
            advance();
        }

        void advance() {
            while (at < end && isBlank(bytes[at])) {
                at++;
            }
            first = at;
            if (at >= end) {
                token = END;
                return;
            }
            int here = bytes[at];
            at++;
            if (isLetter(here)) {
                token = WORD;
                while (at < end && isLetter(bytes[at])) {
                    at++;
                }
            } else if (isDigit(here)) {
                token = NUMBER;
                value = here - '0';
                while (at < end && isDigit(bytes[at])) {
                    value = value < TOO_LONG ? 10 * value + bytes[at] - '0' : TOO_LONG;
                    at++;
                }
                value = at - first > 3 ? TOO_LONG : value;
            } else {
                token = SIGN;
                value = here;
            }
        }

        private static boolean isBlank(int here) {
            return here == 32 || here == 10;
        }

        private static boolean isLetter(int here) {
            return here >= 'a' && here <= 'z';
        }

        private static boolean isDigit(int here) {
            return here >= '0' && here <= '9';
        }

        boolean isEnd() {
            return token == END;
        }

        boolean isWord(String word) {
            if (token != WORD || at - first != word.length()) {
                return false;
            }
            for (int i = 0; i < word.length(); i++) {
                if (bytes[first + i] != word.charAt(i)) {
                    return false;
                }
            }
            return true;
        }

        boolean isSign(char sign) {
            return token == SIGN && value == sign;
        }

        boolean refuse(int what) {
            wrong = what;
            place = first;
            return false;
        }

        boolean takeSign(char sign) {
            if (!isSign(sign)) {
                return refuse(1);
            }
            advance();
            return true;
        }

        boolean takeNumber(int least, int most) {
            if (token != NUMBER) {
                return refuse(1);
            }
            if (value < least || value > most) {
                return refuse(2);
            }
            taken = value;
            advance();
            return true;
        }

        boolean takeSigned(int most) {
            boolean below = isSign('-');
            if (below) {
                advance();
            }
            if (!takeNumber(0, most)) {
                return false;
            }
            taken = below ? -taken : taken;
            return true;
        }
    }

    /** The grammar of swings: a frame told by a text. */
    private static final class SwingsText {
        static boolean read(Tape tape, Frame frame) {
            frame.clear();
            boolean hasPennies = false;
            for (int line = 0; line < Tape.MOST_BYTES && !tape.isEnd(); line++) {
                if (tape.isWord("pennies") && hasPennies) {
                    return tape.refuse(3);
                }
                hasPennies |= tape.isWord("pennies");
                if (!readLine(tape, frame) || !tape.takeSign(';')) {
                    return false;
                }
            }
            return true;
        }

        private static boolean readLine(Tape tape, Frame frame) {
            if (tape.isWord("pendulum")) {
                return readPendulum(tape, frame);
            }
            if (tape.isWord("cart")) {
                return readCart(tape, frame);
            }
            if (tape.isWord("pennies")) {
                return readPennies(tape, frame);
            }
            return tape.refuse(1);
        }

        private static boolean readPendulum(Tape tape, Frame frame) {
            int p = frame.told;
            if (p >= PENDULUMS) {
                return tape.refuse(2);
            }
            tape.advance();
            int kind = kindTold(tape);
            if (kind == NONE) {
                return tape.refuse(1);
            }
            tape.advance();
            frame.kinds[p] = kind;
            return readInto(tape, 2, 40, frame.lengths, p)
                && readInto(tape, 0, MOST_SIZE, frame.settings, SIZES + p)
                && readInto(tape, 0, MOST_START, frame.settings, STARTS + p)
                && readInto(tape, 0, 99, frame.losses, p)
                && countPendulum(frame);
        }

        private static boolean countPendulum(Frame frame) {
            frame.told++;
            return true;
        }

        private static int kindTold(Tape tape) {
            if (tape.isWord("even")) {
                return Frame.EVEN;
            }
            if (tape.isWord("bowl")) {
                return Frame.BOWL;
            }
            return tape.isWord("kick") ? Frame.KICK : NONE;
        }

        private static boolean readInto(Tape tape, int least, int most, int[] row, int place) {
            if (!tape.takeNumber(least, most)) {
                return false;
            }
            row[place] = tape.taken;
            return true;
        }

        private static boolean readCart(Tape tape, Frame frame) {
            int cart = frame.carts;
            if (cart >= MOST_CARTS) {
                return tape.refuse(2);
            }
            tape.advance();
            if (!readInto(tape, 0, 999, frame.cartTicks, cart)) {
                return false;
            }
            for (int axis = 0; axis < 2; axis++) {
                if (!tape.takeSigned(20)) {
                    return false;
                }
                frame.cartWays[2 * cart + axis] = tape.taken;
            }
            frame.carts++;
            return true;
        }

        private static boolean readPennies(Tape tape, Frame frame) {
            tape.advance();
            for (int p = 0; p < PENDULUMS; p++) {
                if (!readInto(tape, 0, MOST_PENNIES, frame.settings, p)) {
                    return false;
                }
            }
            return true;
        }
    }

    /** A score as a row of steps: a block lies behind its act, and ends in a step that goes on from there. */
    private static final class Score {
        static final int DRAW = 0;
        static final int LIFT = 1;
        static final int PENNY = 2;
        static final int SIZE = 3;
        static final int TURN = 4;
        static final int REPEAT = 5;
        static final int WHEN = 6;
        // The ends of a repeated block, and of a block that has another one for it: they are no acts.
        static final int AGAIN = 7;
        static final int ELSE = 8;
        static final int MARKED = 0;
        static final int RIGHT = 1;
        static final int ABOVE = 2;
        // Loud of a pendulum p is LOUD and p.
        static final int LOUD = 3;
        // Each step is told by four bytes at least.
        static final int MOST_STEPS = Tape.MOST_BYTES / 4;
        private static final int DEEPEST = 5;
        private static final int MOST_NOTS = 4;

        final int[] verbs = new int[MOST_STEPS];
        // The number of an act; of a test, which one it is.
        final int[] numbers = new int[MOST_STEPS];
        // By how much; of a test, 1 where it must not hold.
        final int[] changes = new int[MOST_STEPS];
        // The step to go on with instead of the next one.
        final int[] jumps = new int[MOST_STEPS];
        int size;
        private final int[] open = new int[DEEPEST];
        private int depth;

        boolean read(Tape tape) {
            size = 0;
            depth = 0;
            for (int i = 0; i < Tape.MOST_BYTES && !tape.isEnd(); i++) {
                boolean good = depth > 0 && tape.isSign(')') ? closeBlock(tape) : readAct(tape);
                if (!good) {
                    return false;
                }
            }
            return depth == 0 || tape.refuse(1);
        }

        private boolean readAct(Tape tape) {
            int verb = verbTold(tape);
            if (verb == NONE) {
                return tape.refuse(1);
            }
            if (((verb == REPEAT || verb == WHEN) && depth >= DEEPEST) || !addStep(verb)) {
                return tape.refuse(2);
            }
            tape.advance();
            switch (verb) {
                case DRAW:
                case LIFT:
                    return readNumber(tape, 1, 200);
                case PENNY:
                    return readChange(tape, MOST_PENNIES);
                case SIZE:
                    return readChange(tape, MOST_SIZE);
                case REPEAT:
                    return readNumber(tape, 0, 20) && openBlock(tape);
                case WHEN:
                    return readTest(tape) && openBlock(tape);
                default:
                    return true;
            }
        }

        private static int verbTold(Tape tape) {
            if (tape.isWord("draw")) {
                return DRAW;
            }
            if (tape.isWord("lift")) {
                return LIFT;
            }
            if (tape.isWord("penny")) {
                return PENNY;
            }
            if (tape.isWord("size")) {
                return SIZE;
            }
            if (tape.isWord("turn")) {
                return TURN;
            }
            if (tape.isWord("repeat")) {
                return REPEAT;
            }
            return tape.isWord("when") ? WHEN : NONE;
        }

        private boolean addStep(int verb) {
            if (size >= MOST_STEPS) {
                return false;
            }
            verbs[size] = verb;
            numbers[size] = 0;
            changes[size] = 0;
            jumps[size] = 0;
            size++;
            return true;
        }

        private boolean readNumber(Tape tape, int least, int most) {
            if (!tape.takeNumber(least, most)) {
                return false;
            }
            numbers[size - 1] = tape.taken;
            return true;
        }

        private boolean readChange(Tape tape, int most) {
            if (!readNumber(tape, 0, PENDULUMS - 1) || !tape.takeSigned(most)) {
                return false;
            }
            changes[size - 1] = tape.taken;
            return true;
        }

        private boolean readTest(Tape tape) {
            int nots = 0;
            while (nots < MOST_NOTS && tape.isWord("not")) {
                nots++;
                tape.advance();
            }
            if (tape.isWord("not")) {
                return tape.refuse(2);
            }
            changes[size - 1] = nots % 2;
            int test = testTold(tape);
            if (test == NONE) {
                return tape.refuse(1);
            }
            tape.advance();
            if (test != LOUD) {
                numbers[size - 1] = test;
                return true;
            }
            if (!readNumber(tape, 0, PENDULUMS - 1)) {
                return false;
            }
            numbers[size - 1] += LOUD;
            return true;
        }

        private static int testTold(Tape tape) {
            if (tape.isWord("marked")) {
                return MARKED;
            }
            if (tape.isWord("right")) {
                return RIGHT;
            }
            if (tape.isWord("above")) {
                return ABOVE;
            }
            return tape.isWord("loud") ? LOUD : NONE;
        }

        private boolean openBlock(Tape tape) {
            if (!tape.takeSign('(')) {
                return false;
            }
            if (depth < DEEPEST) {
                open[depth] = size - 1;
                depth++;
            }
            return true;
        }

        private boolean closeBlock(Tape tape) {
            tape.advance();
            depth--;
            int opener = open[depth];
            boolean repeats = verbs[opener] == REPEAT;
            boolean hasOther = verbs[opener] == WHEN && tape.isWord("else");
            if ((repeats && !addStep(AGAIN)) || (hasOther && !addStep(ELSE))) {
                return tape.refuse(2);
            }
            if (repeats) {
                jumps[size - 1] = opener + 1;
                numbers[size - 1] = opener;
            }
            jumps[opener] = size;
            if (hasOther) {
                tape.advance();
                return openBlock(tape);
            }
            return true;
        }
    }

    /** A score performed on a frame of its own, so that nothing has to be put back. */
    private static final class Performance {
        private static final int MOST_BEGUN = 1000;
        // Far above what is left to do between so many acts.
        private static final int MOST_DONE = 1000000;

        private final Frame frame = new Frame();
        final int[] marksOf = new int[CELLS];
        int markedCells;
        int begun;
        int tick;
        boolean spent;
        private boolean turned;
        // How often each repeated block is still to come.
        private final int[] repeats = new int[Score.MOST_STEPS];
        private int playedAt = NONE;

        // Once for all questions between two changes.
        void play(Score score, Frame from, int changes) {
            if (playedAt == changes) {
                return;
            }
            playedAt = changes;
            frame.copy(from);
            Arrays.fill(marksOf, 0);
            markedCells = 0;
            begun = 0;
            tick = 0;
            turned = false;
            spent = false;
            int step = 0;
            for (int done = 0; done < MOST_DONE && !spent && step >= 0 && step < score.size; done++) {
                boolean isAct = score.verbs[step] < Score.AGAIN;
                if (isAct && begun >= MOST_BEGUN) {
                    spent = true;
                } else {
                    begun += isAct ? 1 : 0;
                    step = goesAside(score, step) ? score.jumps[step] : step + 1;
                }
            }
        }

        // Does a step: whether it goes on elsewhere than with the next one.
        private boolean goesAside(Score score, int step) {
            int number = score.numbers[step];
            switch (score.verbs[step]) {
                case Score.DRAW:
                    draw(number);
                    return false;
                case Score.LIFT:
                    lift(number);
                    return false;
                case Score.PENNY:
                    alter(number, score.changes[step], MOST_PENNIES);
                    return false;
                case Score.SIZE:
                    alter(SIZES + number, score.changes[step], MOST_SIZE);
                    return false;
                case Score.TURN:
                    turned = !turned;
                    return false;
                case Score.REPEAT:
                    repeats[step] = number;
                    return number == 0;
                case Score.WHEN:
                    return holds(number) != (score.changes[step] == 0);
                case Score.AGAIN:
                    repeats[number]--;
                    return repeats[number] > 0;
                default:
                    return true;
            }
        }

        private void draw(int times) {
            spent = tick + times > LAST_TICK;
            for (int i = 0; i < times && !spent; i++) {
                mark(cell());
                tick++;
            }
        }

        private void mark(int cell) {
            if (!isCell(cell)) {
                return;
            }
            if (marksOf[cell] == 0) {
                markedCells++;
            }
            marksOf[cell]++;
        }

        private void lift(int ticks) {
            spent = tick + ticks > LAST_TICK;
            if (!spent) {
                tick += ticks;
            }
        }

        private void alter(int place, int change, int most) {
            if (place >= 0 && place < SETTINGS) {
                frame.settings[place] = Math.max(0, Math.min(frame.settings[place] + change, most));
            }
        }

        private boolean holds(int test) {
            switch (test) {
                case Score.MARKED:
                    int cell = cell();
                    return isCell(cell) && marksOf[cell] > 0;
                case Score.RIGHT:
                    return frame.penAt(tick, turned ? 1 : 0) > 0;
                case Score.ABOVE:
                    return frame.penAt(tick, turned ? 0 : 1) > 0;
                default:
                    int p = test - Score.LOUD;
                    return p >= 0 && p < PENDULUMS && frame.where(p, tick) != 0;
            }
        }

        int cell() {
            return cellOf(frame.penAt(tick, turned ? 1 : 0), frame.penAt(tick, turned ? 0 : 1));
        }
    }

    /** Whether the pendulums of one frame become those of another one. */
    private static final class Likeness {
        private static final int WAYS = 8;
        private static final int MIRRORS = 4;

        private final int[] partners = new int[PENDULUMS];
        private final int[] times = new int[PENDULUMS];

        boolean joins(Frame first, Frame second) {
            for (int way = 0; way < WAYS; way++) {
                pair(way);
                if (agree(first, second) && meet(first, second)) {
                    return true;
                }
            }
            return false;
        }

        // Bit 2 of the way turns; bit 0 changes the order of those that become 0 and 1, bit 1 of 2 and 3.
        private void pair(int way) {
            for (int p = 0; p < PENDULUMS; p++) {
                int axis = (p / 2) ^ (way >> 2);
                int swapped = (way >> axis) & 1;
                partners[p] = 2 * axis + ((p % 2) ^ swapped);
            }
        }

        private boolean agree(Frame first, Frame second) {
            int model = NONE;
            for (int p = 0; p < PENDULUMS; p++) {
                int q = partners[p];
                int size = first.settings[SIZES + p];
                int becomes = second.settings[SIZES + q];
                if (size == 0 && becomes == 0) {
                    continue;
                }
                boolean bothLoud = size > 0 && becomes > 0;
                if (!bothLoud || first.kinds[p] != second.kinds[q] || first.period(p) != second.period(q)) {
                    return false;
                }
                if (model == NONE) {
                    model = p;
                }
                int modelSize = first.settings[SIZES + model];
                int modelBecomes = second.settings[SIZES + partners[model]];
                if (size * modelBecomes != becomes * modelSize) {
                    return false;
                }
            }
            return true;
        }

        private boolean meet(Frame first, Frame second) {
            for (int mirrors = 0; mirrors < MIRRORS; mirrors++) {
                if (findTimes(first, second, mirrors) && oneTimeForAll(first)) {
                    return true;
                }
            }
            return false;
        }

        private boolean findTimes(Frame first, Frame second, int mirrors) {
            for (int p = 0; p < PENDULUMS; p++) {
                int period = first.period(p);
                if (first.settings[SIZES + p] == 0 || period < 1) {
                    continue;
                }
                int q = partners[p];
                boolean mirrored = ((mirrors >> (q / 2)) & 1) == 1;
                if (mirrored && period % 2 != 0) {
                    return false;
                }
                int gap = second.settings[STARTS + q] - first.settings[STARTS + p] - (mirrored ? period / 2 : 0);
                times[p] = Math.floorMod(gap, period);
            }
            return true;
        }

        // By the Chinese remainders there is a time for all, within the round, just if there is one for each two.
        private boolean oneTimeForAll(Frame first) {
            for (int p = 1; p < PENDULUMS; p++) {
                for (int q = 0; q < p; q++) {
                    boolean both = first.settings[SIZES + p] > 0 && first.settings[SIZES + q] > 0;
                    int common = greatestCommon(first.period(p), first.period(q));
                    if (both && common > 0 && (times[p] - times[q]) % common != 0) {
                        return false;
                    }
                }
            }
            return true;
        }
    }

    /** What points tell: which pennies drew them, when a cart went by. */
    private static final class Fitting {
        static final int MOST_TRIED = 5;
        private static final int TRIED = MOST_TRIED + 1;
        private static final int PAIRS = TRIED * TRIED;
        private static final int LAST_CART = 999;
        private static final int FARTHEST = 20;

        int rows;
        int firstRow;
        int nearestRow;
        int nearestOff;
        int cartTicks;
        int leastCart;
        int cartAlong;
        int cartAcross;
        // Where each pendulum is at each point's tick by each number of pennies.
        private final int[] places = new int[PENDULUMS * TRIED * MOST_POINTS];
        // How far the pen is off each point on each axis by the pennies of that axis.
        private final int[] offs = new int[2 * PAIRS * MOST_POINTS];
        private final int[] ways = new int[2 * MOST_POINTS];

        // Its frame's pennies are changed.
        void findRows(Frame frame, Holdings held, int most, int tolerance) {
            findPlaces(frame, held, most);
            findOffs(frame, held, most, 0);
            findOffs(frame, held, most, 1);
            rows = 0;
            firstRow = NONE;
            nearestRow = NONE;
            nearestOff = 0;
            for (int a = 0; a <= most; a++) {
                for (int b = 0; b <= most; b++) {
                    weighAll(TRIED * a + b, held.points, most, tolerance);
                }
            }
        }

        private void findPlaces(Frame frame, Holdings held, int most) {
            for (int p = 0; p < PENDULUMS; p++) {
                for (int pennies = 0; pennies <= most; pennies++) {
                    frame.settings[p] = pennies;
                    for (int i = 0; i < held.points; i++) {
                        places[placeOf(p, pennies) + i] = frame.where(p, held.pointRows[3 * i]);
                    }
                }
            }
        }

        private static int placeOf(int p, int pennies) {
            return MOST_POINTS * (TRIED * p + pennies);
        }

        private void findOffs(Frame frame, Holdings held, int most, int axis) {
            for (int i = 0; i < held.points; i++) {
                int due = held.pointRows[3 * i + 1 + axis] - frame.shaken(held.pointRows[3 * i], axis);
                for (int a = 0; a <= most; a++) {
                    for (int b = 0; b <= most; b++) {
                        int swung = places[placeOf(2 * axis, a) + i] + places[placeOf(2 * axis + 1, b) + i];
                        offs[offOf(axis, TRIED * a + b) + i] = Math.abs(due - swung);
                    }
                }
            }
        }

        private static int offOf(int axis, int pair) {
            return MOST_POINTS * (PAIRS * axis + pair);
        }

        private void weighAll(int along, int points, int most, int tolerance) {
            for (int a = 0; a <= most; a++) {
                for (int b = 0; b <= most; b++) {
                    weigh(along, TRIED * a + b, points, tolerance);
                }
            }
        }

        private void weigh(int along, int across, int points, int tolerance) {
            int total = 0;
            boolean fit = true;
            for (int i = 0; i < points; i++) {
                int off = offs[offOf(0, along) + i] + offs[offOf(1, across) + i];
                total += off;
                fit &= off <= tolerance;
            }
            int row = 100 * figures(along) + figures(across);
            if (fit) {
                rows++;
                firstRow = firstRow == NONE ? row : firstRow;
            }
            if (nearestRow == NONE || total < nearestOff) {
                nearestRow = row;
                nearestOff = total;
            }
        }

        private static int figures(int pair) {
            return 10 * (pair / TRIED) + pair % TRIED;
        }

        void findCart(Frame frame, Holdings held) {
            for (int i = 0; i < held.points; i++) {
                int tick = held.pointRows[3 * i];
                ways[2 * i] = held.pointRows[3 * i + 1] - frame.swungTo(tick, 0);
                ways[2 * i + 1] = held.pointRows[3 * i + 2] - frame.swungTo(tick, 1);
            }
            cartTicks = 0;
            leastCart = NONE;
            cartAlong = 0;
            cartAcross = 0;
            for (int tick = 0; tick <= LAST_CART; tick++) {
                tryCart(tick, held);
            }
        }

        private void tryCart(int tick, Holdings held) {
            int model = modelOf(tick, held);
            if (model == NONE) {
                return;
            }
            if (cartTicks == 0) {
                leastCart = tick;
                cartAlong = ways[2 * model];
                cartAcross = ways[2 * model + 1];
            }
            cartTicks++;
        }

        // A point that tells the way of a cart at the tick; NONE, if none can have been.
        private int modelOf(int tick, Holdings held) {
            int model = NONE;
            for (int i = 0; i < held.points; i++) {
                if (held.pointRows[3 * i] < tick) {
                    if (!isStill(i)) {
                        return NONE;
                    }
                } else if (model == NONE) {
                    model = i;
                } else if (ways[2 * i] != ways[2 * model] || ways[2 * i + 1] != ways[2 * model + 1]) {
                    return NONE;
                }
            }
            return model != NONE && isCartsWay(model) ? model : NONE;
        }

        private boolean isStill(int i) {
            return ways[2 * i] == 0 && ways[2 * i + 1] == 0;
        }

        private boolean isCartsWay(int i) {
            return !isStill(i) && Math.abs(ways[2 * i]) <= FARTHEST && Math.abs(ways[2 * i + 1]) <= FARTHEST;
        }
    }

    /** The evening that is kept, and how it is found. */
    private static final class Evening {
        // Rows of apart beside those of portraits: pennies as they are at first, and none at all.
        private static final int AT_FIRST = MOST_PORTRAITS;
        private static final int ALL_OFF = MOST_PORTRAITS + 1;
        // More than any evening can cost.
        private static final int MUCH = 1000000;

        final int[] order = new int[MOST_PORTRAITS];
        int length;
        int tea;
        private final int[] apart = new int[(MOST_PORTRAITS + 2) * MOST_PORTRAITS];
        // The fewest pennies from a portrait on through all of a set: with tea to come, and without.
        private final int[] fresh = new int[MOST_PORTRAITS << MOST_PORTRAITS];
        private final int[] rested = new int[MOST_PORTRAITS << MOST_PORTRAITS];

        void clear() {
            length = 0;
            tea = 0;
        }

        int make(int set, Holdings held, int[] settings) {
            measure(held, settings);
            for (int rest = 0; rest <= set && rest < 1 << MOST_PORTRAITS; rest++) {
                for (int last = 0; last < MOST_PORTRAITS; last++) {
                    if ((rest & set) == rest && has(set ^ rest, last)) {
                        weigh(rest, last);
                    }
                }
            }
            return choose(set);
        }

        private void measure(Holdings held, int[] settings) {
            int[] rows = held.portraitRows;
            for (int to = 0; to < held.portraits; to++) {
                for (int from = 0; from < held.portraits; from++) {
                    apart[apartOf(from, to)] = pennies(rows, SETTINGS * from, rows, SETTINGS * to);
                }
                apart[apartOf(AT_FIRST, to)] = pennies(settings, 0, rows, SETTINGS * to);
                int on = 0;
                for (int p = 0; p < PENDULUMS; p++) {
                    on += rows[SETTINGS * to + p];
                }
                apart[apartOf(ALL_OFF, to)] = on;
            }
        }

        private static int pennies(int[] rows, int place, int[] otherRows, int otherPlace) {
            int moved = 0;
            for (int p = 0; p < PENDULUMS; p++) {
                moved += Math.abs(rows[place + p] - otherRows[otherPlace + p]);
            }
            return moved;
        }

        private static int apartOf(int from, int to) {
            return MOST_PORTRAITS * from + to;
        }

        private static boolean has(int set, int portrait) {
            return ((set >> portrait) & 1) == 1;
        }

        private static int stateOf(int rest, int last) {
            return MOST_PORTRAITS * rest + last;
        }

        private void weigh(int rest, int last) {
            int bestFresh = rest == 0 ? 0 : MUCH;
            int bestRested = bestFresh;
            for (int to = 0; to < MOST_PORTRAITS; to++) {
                if (has(rest, to)) {
                    int behind = stateOf(rest ^ (1 << to), to);
                    int step = apart[apartOf(last, to)];
                    int teaStep = apart[apartOf(ALL_OFF, to)];
                    bestRested = Math.min(bestRested, step + rested[behind]);
                    bestFresh = Math.min(bestFresh, Math.min(step + fresh[behind], teaStep + rested[behind]));
                }
            }
            fresh[stateOf(rest, last)] = bestFresh;
            rested[stateOf(rest, last)] = bestRested;
        }

        // At each place the least portrait of those by which all can still be done with the fewest.
        private int choose(int set) {
            int rest = set;
            int last = AT_FIRST;
            int without = 0;
            int with = MUCH;
            int fewest = MUCH;
            length = 0;
            while (rest != 0 && length < MOST_PORTRAITS) {
                int chosen = 0;
                fewest = MUCH;
                for (int to = 0; to < MOST_PORTRAITS; to++) {
                    int all = has(rest, to) ? through(rest, last, to, without, with) : MUCH;
                    if (all < fewest) {
                        fewest = all;
                        chosen = to;
                    }
                }
                with = withTea(last, chosen, without, with);
                without += apart[apartOf(last, chosen)];
                order[length] = chosen;
                length++;
                rest &= ~(1 << chosen);
                last = chosen;
            }
            tea = without == fewest ? 0 : soonestTea(fewest);
            return fewest;
        }

        private int through(int rest, int last, int to, int without, int with) {
            int behind = stateOf(rest ^ (1 << to), to);
            int fresher = without + apart[apartOf(last, to)] + fresh[behind];
            return Math.min(fresher, withTea(last, to, without, with) + rested[behind]);
        }

        private int withTea(int last, int to, int without, int with) {
            int teaNow = last == AT_FIRST ? MUCH : without + apart[apartOf(ALL_OFF, to)];
            return Math.min(with + apart[apartOf(last, to)], teaNow);
        }

        private int soonestTea(int fewest) {
            for (int behind = 1; behind < length; behind++) {
                if (costWithTea(behind) == fewest) {
                    return behind;
                }
            }
            return 0;
        }

        private int costWithTea(int behind) {
            int cost = 0;
            int last = AT_FIRST;
            for (int i = 0; i < length; i++) {
                cost += apart[apartOf(i == behind ? ALL_OFF : last, order[i])];
                last = order[i];
            }
            return cost;
        }
    }

    /** The best factor of a parish's birthdays. */
    private static final class Parish {
        private static final int LAST_FACTOR = 999;
        private static final int FIGURES = 4;
        private static final int TEN_THOUSAND = 10000;
        private static final int NEAR = 7;

        int best;
        int fewest;
        private int foundAt = NONE;

        void findBest(Holdings held, int changes) {
            if (foundAt == changes) {
                return;
            }
            foundAt = changes;
            best = NONE;
            fewest = NONE;
            for (int factor = 1; factor <= LAST_FACTOR && fewest < FIGURES; factor++) {
                int unlike = fewestUnlike(held, factor);
                if (unlike > fewest) {
                    fewest = unlike;
                    best = factor;
                }
            }
        }

        // NONE, if two have the same figures; some number that is not more than the fewest found, if it can't be more.
        private int fewestUnlike(Holdings held, int factor) {
            int least = FIGURES;
            for (int i = 1; i < held.birthdays && least > fewest; i++) {
                for (int j = 0; j < i; j++) {
                    int days = Math.abs(held.days[i] - held.days[j]);
                    if (days != 0 && days * factor % TEN_THOUSAND == 0) {
                        return NONE;
                    }
                    if (days != 0 && days <= NEAR) {
                        least = Math.min(least, unlikeFigures(held.days[i] * factor, held.days[j] * factor));
                    }
                }
            }
            return least;
        }

        private static int unlikeFigures(int a, int b) {
            int unlike = 0;
            int restA = a;
            int restB = b;
            for (int i = 0; i < FIGURES; i++) {
                if (restA % 10 != restB % 10) {
                    unlike++;
                }
                restA /= 10;
                restB /= 10;
            }
            return unlike;
        }
    }
}
