import java.util.NoSuchElementException;

/** What the tests share: texts for the tape, answers that are due, a count of those that are not. */
final class Check {
    /** A call whose answer, or exception, is looked at. */
    interface Call {
        long answer();
    }

    private static int wrong = 0;
    private static int asked = 0;
    private static String about = "";

    private Check() {
    }

    static int wrong() {
        return wrong;
    }

    static int asked() {
        return asked;
    }

    /** What the next questions are about: told with each one that goes wrong. */
    static void about(String what) {
        about = what.isEmpty() ? "" : what + ": ";
    }

    private static void complain(String what) {
        wrong++;
        System.out.println(about + what);
    }

    static void is(String name, long got, long due) {
        asked++;
        if (got != due) {
            complain(name + " answered " + got + ", due is " + due);
        }
    }

    static void noSuch(String name, Call call) {
        asked++;
        String got = thrown(call);
        if (!got.equals("NoSuchElementException")) {
            complain(name + " gave " + got + ", due is NoSuchElementException");
        }
    }

    static void illegal(String name, Call call) {
        asked++;
        String got = thrown(call);
        if (!got.equals("IllegalArgumentException")) {
            complain(name + " gave " + got + ", due is IllegalArgumentException");
        }
    }

    private static String thrown(Call call) {
        try {
            return "the answer " + call.answer();
        } catch (NoSuchElementException e) {
            return e.getClass() == NoSuchElementException.class ? "NoSuchElementException" : e.toString();
        } catch (RuntimeException e) {
            return e.getClass() == IllegalArgumentException.class ? "IllegalArgumentException" : e.toString();
        }
    }

    static void feed(PenSwings x, String text) {
        for (int from = 0; from < text.length(); from += 20) {
            int[] w = words(text, from);
            x.feed(w[0], w[1], w[2], w[3], w[4]);
        }
    }

    static int[] words(String text, int from) {
        int[] words = new int[5];
        for (int i = 0; i < 20; i++) {
            int sign = from + i < text.length() ? text.charAt(from + i) : ' ';
            words[i / 4] = words[i / 4] << 8 | sign & 255;
        }
        return words;
    }

    static int swings(PenSwings x, String text) {
        feed(x, text);
        return x.swings(text.length());
    }

    static int score(PenSwings x, String text) {
        feed(x, text);
        return x.score(text.length());
    }

    /** A new object with swings told by a text that has no fault. */
    static PenSwings told(String text) {
        PenSwings x = new PenSwings();
        is("swings " + text, swings(x, text), 0);
        return x;
    }

    /** A text on a new object that must have a fault at a place. */
    static void badSwings(String text, int fault, int place) {
        PenSwings x = new PenSwings();
        is("swings " + text, swings(x, text), fault);
        is("place of " + text, x.fault(), place);
    }

    static void badScore(String text, int fault, int place) {
        PenSwings x = new PenSwings();
        is("score " + text, score(x, text), fault);
        is("place of " + text, x.fault(), place);
    }

    /** A new object with a score told by a text that has no fault. */
    static PenSwings scored(String swings, String text) {
        PenSwings x = told(swings);
        is("score " + text, score(x, text), 0);
        return x;
    }

    static void row(String name, int[] got, int... due) {
        is(name + ", how many", got.length, due.length);
        for (int i = 0; i < got.length && i < due.length; i++) {
            is(name + ", number " + i, got[i], due[i]);
        }
    }

    static void end() {
        System.out.println(asked + " asked, " + wrong + " wrong");
        if (wrong != 0 || asked == 0) {
            System.exit(1);
        }
    }
}
