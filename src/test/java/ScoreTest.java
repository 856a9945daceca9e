/** Promises 4 score, 5 performed, 6 marks, 7 fault of scores. */
public final class ScoreTest {
    // Along 50, 50, -50, -50; across 30, -30.
    private static final String SWINGS = "pendulum kick 4 50 0 0;pendulum kick 2 0 0 0;pendulum kick 2 30 0 0;";
    private static final int START = cell(50, 30);

    public static void main(String[] args) {
        acts();
        changes();
        turning();
        blocks();
        tests();
        justAbove();
        cutAndFull();
        spentActs();
        spentTicks();
        faults();
        replaced();
        carts();
        Check.end();
    }

    private static int cell(int along, int across) {
        return 27 * ((across + 260) / 20) + (along + 260) / 20;
    }

    private static void performed(PenSwings x, String text, int acts, int cells, int tick, int cell) {
        Check.is("score " + text, Check.score(x, text), 0);
        int[] due = {acts, cells, tick, cell};
        for (int what = 0; what < 4; what++) {
            Check.is("performed " + what + " of " + text, x.performed(what), due[what]);
        }
    }

    private static void acts() {
        PenSwings x = Check.told(SWINGS);
        performed(x, "", 0, 0, 0, START);
        performed(x, "draw 4", 1, 4, 4, START);
        Check.is("marks", x.marks(START), 1);
        performed(x, "draw 9", 1, 4, 9, cell(50, -30));
        Check.is("marks", x.marks(START), 3);
        Check.is("marks", x.marks(cell(-50, 30)), 2);
        Check.is("no marks", x.marks(0), 0);
        performed(x, "lift 3", 1, 0, 3, cell(-50, -30));
        performed(x, "draw 1 lift 1 draw 1", 3, 2, 3, cell(-50, -30));
        performed(x, "draw1lift1draw1", 3, 2, 3, cell(-50, -30));
        performed(x, "draw 200 lift 200", 2, 4, 400, START);
        Check.noSuch("performed 4", () -> x.performed(4));
        Check.noSuch("performed -1", () -> x.performed(-1));
        Check.noSuch("marks 729", () -> x.marks(729));
        Check.noSuch("marks -1", () -> x.marks(-1));
        x.set(0, 2, 10);
        Check.is("performed anew behind a change", x.performed(3), cell(10, 30));
    }

    private static void changes() {
        PenSwings x = Check.told(SWINGS + "pennies 0 0 8 0;");
        performed(x, "size 0 -40", 1, 0, 0, cell(10, 30));
        performed(x, "size 0 -90", 1, 0, 0, cell(0, 30));
        performed(x, "size 0 90 size 1 90 size 1 -5", 3, 0, 0, cell(175, 30));
        performed(x, "penny 0 4 lift 2", 2, 0, 2, cell(50, 30));
        performed(x, "lift 2", 1, 0, 2, cell(-50, 30));
        performed(x, "penny 2 9 penny 2 -9 lift 1", 3, 0, 1, cell(50, -30));
        performed(x, "penny 2 9 penny 2 -8 lift 1", 3, 0, 1, cell(50, 30));
        performed(x, "penny 0 -9 lift 2", 2, 0, 2, cell(-50, 30));
        Check.is("size is as it was", x.pendulum(0, 2), 50);
        Check.is("pennies are as they were", x.pendulum(2, 5), 8);
        Check.is("the pen, too", x.pen(2, 0), -50);
    }

    private static void turning() {
        PenSwings x = Check.told(SWINGS);
        performed(x, "turn draw 2", 2, 2, 2, cell(30, -50));
        Check.is("turned", x.marks(cell(30, 50)), 1);
        Check.is("turned", x.marks(cell(-30, 50)), 1);
        performed(x, "turn draw 1 turn draw 1", 4, 2, 2, cell(-50, 30));
        Check.is("back", x.marks(cell(50, -30)), 1);
        performed(x, "lift 1 when right(draw 1)", 3, 1, 2, cell(-50, 30));
        performed(x, "lift 1 turn when right(draw 1)", 3, 0, 1, cell(-30, 50));
        performed(x, "lift 1 turn when above(draw 1)", 4, 1, 2, cell(30, -50));
    }

    private static void blocks() {
        PenSwings x = Check.told(SWINGS);
        performed(x, "repeat 0 (draw 1)", 1, 0, 0, START);
        performed(x, "repeat 20 ()", 1, 0, 0, START);
        performed(x, "repeat 3 (lift 1 repeat 2 (draw 1))", 1 + 3 * 4, 4, 9, cell(50, -30));
        performed(x, "repeat 2 (repeat 2 (repeat 2 (repeat 2 (repeat 2 (lift 1)))))", 1 + 2 + 4 + 8 + 16 + 32, 0, 32, START);
        performed(x, "repeat 2 (when right (lift 2) else (draw 1) turn) lift 1", 1 + 2 * 3 + 1, 0, 5, cell(50, -30));
        performed(x, "when right (when above () else (draw 1)) else (draw 2)", 2, 0, 0, START);
        performed(x, "when not right () else (repeat 2 (lift 1) draw 1) turn", 1 + 1 + 2 + 1 + 1, 1, 3, cell(-30, -50));
        performed(x, "when not right () draw 1", 2, 1, 1, cell(50, -30));
    }

    private static void tests() {
        PenSwings x = Check.told(SWINGS);
        performed(x, "when marked (draw 1) else (draw 2)", 2, 2, 2, cell(-50, 30));
        performed(x, "draw 4 when marked (draw 1) else (draw 2)", 3, 4, 5, cell(50, -30));
        performed(x, "draw 3 lift 4 when marked (draw 1)", 3, 3, 7, cell(-50, -30));
        performed(x, "lift 2 when right () else (lift 1)", 3, 0, 3, cell(-50, -30));
        performed(x, "lift 1 when above () else (lift 1)", 3, 0, 2, cell(-50, 30));
        performed(x, "size 0 -50 when right (lift 1) when not right (lift 2)", 4, 0, 2, cell(0, 30));
        performed(x, "when loud 0 (lift 1) when loud 1 (lift 2) when loud 2 (lift 4) when loud 3 (lift 8)", 6, 0, 5, cell(50, -30));
        performed(x, "when not not right (lift 1)", 2, 0, 1, cell(50, -30));
        performed(x, "when not not not not right (lift 1)", 2, 0, 1, cell(50, -30));
        performed(x, "when not not not right (lift 1) else (lift 2)", 2, 0, 2, cell(-50, 30));
        performed(x, "lift 3 when loud 0 (lift 1)", 3, 0, 4, START);
    }

    private static void spent(PenSwings x, String text) {
        Check.is("score " + text, Check.score(x, text), 0);
        for (int what = 0; what < 4; what++) {
            Check.is("spent " + what + " " + text, x.performed(what), -2);
        }
        Check.is("marks of spent " + text, x.marks(START), -2);
        Check.noSuch("performed 4 of spent", () -> x.performed(4));
        Check.noSuch("marks 729 of spent", () -> x.marks(729));
    }

    private static void justAbove() {
        PenSwings x = Check.told("pendulum kick 2 1 0 0;pendulum kick 2 0 0 0;pendulum kick 2 1 0 0;");
        performed(x, "when right (lift 2) when above (lift 4)", 4, 0, 6, cell(1, 1));
        performed(x, "size 0 -1 size 2 -1 when right (lift 2) when above (lift 4)", 4, 0, 0, cell(0, 0));
        performed(x, "size 2 -1 when above (lift 2)", 2, 0, 0, cell(1, 0));
    }

    private static void cutAndFull() {
        PenSwings x = Check.told(SWINGS);
        Check.feed(x, "draw 12");
        Check.is("cut in a number", x.score(6), 0);
        Check.is("one", x.performed(2), 1);
        Check.feed(x, "turnturn");
        Check.is("cut in a word", x.score(4), 0);
        Check.is("turned", x.performed(3), cell(30, 50));
        performed(x, "draw1".repeat(80), 80, 4, 80, START);
        performed(x, "turn ".repeat(80), 80, 0, 0, START);
        performed(x, "repeat9()".repeat(44), 44, 0, 0, START);
    }

    private static void spentActs() {
        PenSwings x = Check.told(SWINGS);
        performed(x, "repeat 9 (repeat 10 (repeat 9 (turn)) turn) repeat 8 (turn)", 919 + 9, 0, 0, cell(30, 50));
        performed(x, "repeat 9 (repeat 10 (repeat 9 (turn)) turn) repeat 8 (repeat 8 (turn))", 919 + 73, 0, 0, cell(30, 50));
        String near = "repeat 9 (repeat 10 (repeat 9 (turn)) turn) repeat 8 (repeat 8 (turn)) repeat 7 (turn)";
        performed(x, near, 1000, 0, 0, START);
        spent(x, near + " turn");
        spent(x, near + " repeat 0 ()");
        spent(x, near + " when not right ()");
    }

    private static void spentTicks() {
        PenSwings x = Check.told(SWINGS);
        performed(x, "repeat 10 (repeat 5 (lift 199)) lift 49", 62, 0, 9999, cell(-50, -30));
        spent(x, "repeat 10 (repeat 5 (lift 199)) lift 50");
        spent(x, "repeat 10 (repeat 5 (lift 199)) lift 49 draw 1");
        performed(x, "repeat 10 (repeat 5 (lift 199)) draw 49", 62, 4, 9999, cell(-50, -30));
        spent(x, "repeat 10 (repeat 5 (lift 200))");
        spent(x, "repeat 10 (repeat 5 (draw 200))");
    }

    private static void bad(String text, int what, int place) {
        PenSwings x = new PenSwings();
        Check.is("score " + text, Check.score(x, text), what);
        Check.is("fault of " + text, x.fault(), place);
        Check.is("refused " + text, x.count(6), 1);
    }

    private static void faults() {
        bad("draw", 1, 4);
        bad("draw -1", 1, 5);
        bad("draw x", 1, 5);
        bad("draw 0200", 2, 5);
        bad("lift 0", 2, 5);
        bad("lift 201", 2, 5);
        bad("5", 1, 0);
        bad("1000", 1, 0);
        bad("turn 5", 1, 5);
        bad("turnturn", 1, 0);
        bad("burn", 1, 0);
        bad("crew 1", 1, 0);
        bad("then right ()", 1, 0);
        bad("when night ()", 1, 5);
        bad("when marked () elsa ()", 1, 15);
        bad("turn;", 1, 4);
        bad("(turn)", 1, 0);
        bad("turn)", 1, 4);
        bad("penny 4 0", 2, 6);
        bad("penny -1 0", 1, 6);
        bad("penny 3 -10", 2, 9);
        bad("penny 3 --1", 1, 9);
        bad("penny 3", 1, 7);
        bad("size 3 91", 2, 7);
        bad("size 3 - 91", 2, 9);
        bad("repeat 20", 1, 9);
        bad("repeat 21", 2, 7);
        bad("repeat (turn)", 1, 7);
        bad("repeat 1 turn", 1, 9);
        bad("repeat 1 (turn", 1, 14);
        bad("repeat 1 (turn  ", 1, 16);
        bad("repeat 1 (repeat 1 (turn)", 1, 25);
        bad("repeat 1 (turn))", 1, 15);
        bad("repeat 1 () else ()", 1, 12);
        bad("when", 1, 4);
        bad("when not", 1, 8);
        bad("when turn", 1, 5);
        bad("when not (turn)", 1, 9);
        bad("when right", 1, 10);
        bad("when right turn", 1, 11);
        bad("when right right ()", 1, 11);
        bad("when right not ()", 1, 11);
        bad("when loud ()", 1, 10);
        bad("when loud 4 ()", 2, 10);
        bad("when loud -1 ()", 1, 10);
        bad("when marked () else", 1, 19);
        bad("when marked () else turn", 1, 20);
        bad("when marked () else (", 1, 21);
        bad("when marked () else () else ()", 1, 23);
        bad("when marked () () ", 1, 15);
        bad("when not not not not not", 2, 21);
        bad("when not not not not x", 1, 21);
        String five = "repeat1(when right(repeat1(when right()else(repeat1(";
        bad(five + "repeat 1", 2, five.length());
        bad(five + "when", 2, five.length());
        bad(five + "turn else", 1, five.length() + 5);
        Check.is("five deep", Check.score(new PenSwings(), five + "turn)))))"), 0);
        bad(five + "turn))))))", 1, five.length() + 9);
        bad("draw 1 " + (char) 233, 1, 7);
    }

    private static void replaced() {
        PenSwings x = Check.told(SWINGS);
        performed(x, "draw 3", 1, 3, 3, cell(-50, -30));
        Check.is("fault", Check.score(x, "draw 2 draw"), 1);
        Check.is("place", x.fault(), 11);
        Check.is("stays", x.performed(2), 3);
        Check.is("swings' fault", Check.swings(x, "draw"), 1);
        Check.is("place", x.fault(), 0);
        Check.is("stays", x.performed(2), 3);
        performed(x, "lift 7", 1, 0, 7, cell(-50, -30));
        Check.is("no fault", x.fault(), PenSwings.NONE);
        Check.is("gone with swings", Check.swings(x, SWINGS), 0);
        Check.is("no acts", x.performed(0), 0);
        Check.illegal("not so many", () -> x.score(1));
        Check.illegal("below 0", () -> x.score(-1));
    }

    private static void carts() {
        PenSwings x = Check.told(SWINGS + "cart 0 20 -20;cart 2 0 20;");
        performed(x, "draw 3", 1, 3, 3, cell(-30, -30));
        Check.is("shaken", x.marks(cell(70, 10)), 1);
        performed(x, "turn draw 1", 2, 1, 1, cell(-50, 70));
        Check.is("shaken and turned", x.marks(cell(10, 70)), 1);
    }
}
