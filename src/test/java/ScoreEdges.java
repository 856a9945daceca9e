/** Scores, their faults, their performance, STATUS: part 6, promises 4 to 6. */
final class ScoreEdges {
    private static final String PART = "Part 6";
    // Along 50, 50, -50, -50; across 30, -30.
    private static final String SWINGS = "pendulum kick 4 50 0 0;pendulum kick 2 0 0 0;pendulum kick 2 30 0 0;";
    private static final int START = cell(50, 30);
    // 1 and 9 by 111: a repeat of 10 turns is 11 acts, ten of them with their repeat are 111.
    private static final String THOUSAND = "repeat 9 (repeat 10 (repeat 10 (turn)))";
    private static final int[] FAR = {Integer.MIN_VALUE, Integer.MAX_VALUE};

    private ScoreEdges() {
    }

    static void all(Edges e) {
        grammar(e);
        blocksAndTests(e);
        numbers(e);
        tooDeep(e);
        fromTheStart(e);
        ticksAndMarks(e);
        changes(e);
        blocksPerformed(e);
        tests(e);
        spent(e);
        status(e);
        score(e);
        performed(e);
        marks(e);
    }

    private static int cell(int along, int across) {
        return 27 * ((across + 260) / 20) + (along + 260) / 20;
    }

    /** ACTS, CELLS marked, the TICK and the CELL at the end. */
    private static PenSwings performed(String text, int... due) {
        PenSwings x = Check.scored(SWINGS, text);
        Check.row(text, answers(x), due);
        return x;
    }

    private static int[] answers(PenSwings x) {
        return new int[] {x.performed(0), x.performed(1), x.performed(2), x.performed(3)};
    }

    private static void spent(String text) {
        PenSwings x = performed(text, -2, -2, -2, -2);
        Check.is("marks of " + text, x.marks(START), -2);
    }

    private static void grammar(Edges e) {
        e.edge(PART, "A SCORE is told by a TEXT of its own (of the tape; TOKENS as above, signs ( ) - alone):", () -> {
            performed("penny 0 -1 repeat 1 ( turn )", 3, 0, 0, cell(30, 50));
            performed("penny0-1repeat1(turn)", 3, 0, 0, cell(30, 50));
            performed("\n penny\n0\n-\n1 repeat\n1(\nturn ) \n", 3, 0, 0, cell(30, 50));
            for (String sign : new String[] {";", "[", "]", "{", "}", ",", ".", "+", "'", "T", "\t", "\r", "" + (char) 0,
                "" + (char) 168,
                "" + (char) 169, "" + (char) 173}) {
                Check.badScore("turn " + sign, 1, 5);
            }
            Check.badScore("turnturn", 1, 0);
            Check.badScore("tur n", 1, 0);
        });
        e.edge(PART, "ACT*.", () -> {
            performed("", 0, 0, 0, START);
            performed(" \n ", 0, 0, 0, START);
            performed("turn turn turn turn", 4, 0, 0, START);
        });
        e.edge(PART, "ACT: 'draw' NUMBER | 'lift' NUMBER | 'penny' NUMBER SIGNED | 'size' NUMBER SIGNED | 'turn' | "
            + "'repeat' NUMBER BLOCK | 'when' TEST BLOCK ['else' BLOCK].", () -> {
                String[] cut = {"draw", "lift", "penny", "penny 0", "penny 0 -", "size", "size 0", "size 0 -", "repeat",
                    "repeat 1", "repeat 1 (",
                    "when", "when not", "when right", "when right (", "when loud", "when right () else", "when right "
                        + "() else ("};
                for (String text : cut) {
                    Check.badScore(text, 1, text.length());
                    Check.badScore(text + "\n  ", 1, text.length() + 3);
                }
                tooMany();
            });
    }

    private static void tooMany() {
        Check.badScore("x", 1, 0);
        Check.badScore("7", 1, 0);
        Check.badScore("-", 1, 0);
        Check.badScore("(", 1, 0);
        Check.badScore("else", 1, 0);
        Check.badScore("not", 1, 0);
        Check.badScore("draw 1 1", 1, 7);
        Check.badScore("draw -1", 1, 5);
        Check.badScore("lift -1", 1, 5);
        Check.badScore("penny -0 1", 1, 6);
        Check.badScore("penny 0 1 1", 1, 10);
        Check.badScore("penny 0 --1", 1, 9);
        Check.badScore("size -0 1", 1, 5);
        Check.badScore("size 0 1 1", 1, 9);
        Check.badScore("turn 1", 1, 5);
        Check.badScore("turn ()", 1, 5);
        Check.badScore("repeat -1 ()", 1, 7);
        Check.badScore("repeat ()", 1, 7);
        Check.badScore("repeat 1 turn", 1, 9);
        Check.badScore("repeat 1 () ()", 1, 12);
        Check.badScore("repeat 1 () else ()", 1, 12);
        Check.badScore("when right turn", 1, 11);
        Check.badScore("when right () else turn", 1, 19);
        Check.badScore("when right () else () else ()", 1, 22);
        Check.badScore("when right () turn else ()", 1, 19);
    }

    private static void blocksAndTests(Edges e) {
        e.edge(PART, "BLOCK: '(' ACT* ')'.", () -> {
            performed("repeat 3 ()", 1, 0, 0, START);
            performed("when right () else ()", 1, 0, 0, START);
            performed("repeat 1 (turn turn turn)", 4, 0, 0, cell(30, 50));
            Check.badScore(")", 1, 0);
            Check.badScore("turn)", 1, 4);
            Check.badScore("repeat 1 (turn))", 1, 15);
            Check.badScore("repeat 1 (turn", 1, 14);
            Check.badScore("repeat 1 (repeat 1 ()", 1, 21);
            Check.badScore("repeat 1 (()", 1, 10);
            Check.badScore("repeat 1 (else)", 1, 10);
        });
        e.edge(PART, "TEST: 'not' TEST | 'marked' | 'right' | 'above' | 'loud' NUMBER.", () -> {
            Check.badScore("when ()", 1, 5);
            Check.badScore("when not ()", 1, 9);
            Check.badScore("when draw ()", 1, 5);
            Check.badScore("when 1 ()", 1, 5);
            Check.badScore("when right right ()", 1, 11);
            Check.badScore("when right not ()", 1, 11);
            Check.badScore("when right 1 ()", 1, 11);
            Check.badScore("when loud ()", 1, 10);
            Check.badScore("when loud -1 ()", 1, 10);
            Check.badScore("when loud 0 0 ()", 1, 12);
            Check.badScore("when notright ()", 1, 5);
        });
        e.edge(PART, "FAULTS of it: 1 as above;", () -> {
            Check.badScore("draw 201 x", 2, 5);
            Check.badScore("x draw 201", 1, 0);
            Check.badScore("  \n 1234", 1, 4);
            Check.badScore("draw 1 1234", 1, 7);
            Check.badScore("draw", 1, 4);
            Check.badScore(" draw  ", 1, 7);
            Check.badScore("pendulum", 1, 0);
            Check.badScore("turn" + (char) 255, 1, 4);
        });
    }

    private static void numbers(Edges e) {
        e.edge(PART, "2 a NUMBER of 4 digits or more, or not as told", () -> {
            performed("draw 002 penny 000 -000", 2, 2, 2, cell(-50, 30));
            Check.badScore("draw 0001", 2, 5);
            Check.badScore("lift 0001", 2, 5);
            Check.badScore("penny 0000 1", 2, 6);
            Check.badScore("penny 0 0001", 2, 8);
            Check.badScore("penny 0 -0001", 2, 9);
            Check.badScore("size 0000 1", 2, 5);
            Check.badScore("size 0 -0001", 2, 8);
            Check.badScore("repeat 0001 ()", 2, 7);
            Check.badScore("when loud 0000 ()", 2, 10);
            Check.badScore("draw 4294967297", 2, 5);
            Check.badScore("draw 18446744073709551617", 2, 5);
        });
        e.edge(PART, "(draw, lift 1 to 200;", () -> {
            performed("draw 1", 1, 1, 1, cell(50, -30));
            performed("draw 200", 1, 4, 200, START);
            performed("lift 1", 1, 0, 1, cell(50, -30));
            performed("lift 200", 1, 0, 200, START);
            Check.badScore("draw 0", 2, 5);
            Check.badScore("draw 201", 2, 5);
            Check.badScore("lift 0", 2, 5);
            Check.badScore("lift 201", 2, 5);
        });
        e.edge(PART, "of a PENDULUM 0 to 3;", () -> {
            performed("size 0 40", 1, 0, 0, cell(90, 30));
            performed("size 3 40", 1, 0, 0, cell(50, 30));
            performed("penny 0 1 penny 3 1 when loud 0 (turn) when loud 3 (lift 1)", 5, 0, 0, cell(30, 50));
            Check.badScore("penny 4 1", 2, 6);
            Check.badScore("size 4 1", 2, 5);
            Check.badScore("when loud 4 ()", 2, 10);
            Check.badScore("when not loud 999 ()", 2, 14);
        });
        e.edge(PART, "penny -9 to 9;", () -> {
            performed("penny 0 9 lift 6", 2, 0, 6, cell(50, 30));
            performed("penny 0 9 lift 7", 2, 0, 7, cell(-50, -30));
            performed("penny 0 9 penny 0 -9 lift 6", 3, 0, 6, cell(-50, 30));
            Check.badScore("penny 0 10", 2, 8);
            Check.badScore("penny 0 -10", 2, 9);
        });
        e.edge(PART, "size -90 to 90;", () -> {
            performed("size 1 90", 1, 0, 0, cell(140, 30));
            performed("size 1 90 size 1 -90", 2, 0, 0, START);
            Check.badScore("size 0 91", 2, 7);
            Check.badScore("size 0 -91", 2, 8);
        });
        e.edge(PART, "repeat 0 to 20),", () -> {
            performed("repeat 0 (lift 1)", 1, 0, 0, START);
            performed("repeat 1 (lift 1)", 2, 0, 1, cell(50, -30));
            performed("repeat 20 (lift 1)", 21, 0, 20, START);
            Check.badScore("repeat 21 ()", 2, 7);
            Check.badScore("repeat 999 ()", 2, 7);
        });
    }

    private static void tooDeep(Edges e) {
        e.edge(PART, "a 'repeat' or 'when' within 5 others,", () -> {
            String five = "repeat1(when right(repeat1(when right()else(repeat1(";
            performed(five + "turn)))))", 4, 0, 0, START);
            performed("repeat1(repeat1(repeat1(repeat1(repeat1(turn)))))", 6, 0, 0, cell(30, 50));
            performed("when right(when right(when right(when right(when right(turn)))))", 6, 0, 0, cell(30, 50));
            performed(many("repeat1(repeat1(repeat1()))", 3) + "turn", 10, 0, 0, cell(30, 50));
            Check.badScore(five + "repeat1()", 2, five.length());
            Check.badScore(five + " when right()", 2, five.length() + 1);
            Check.badScore(five + "repeat x", 2, five.length());
            Check.badScore(five + "turn when", 2, five.length() + 5);
            Check.badScore(many("repeat1(", 5) + "repeat1()", 2, 40);
            Check.badScore(many("when right(", 5) + "when right()", 2, 55);
            Check.badScore(many("when right()else(", 5) + "repeat1()", 2, 85);
        });
        e.edge(PART, "the fifth 'not' side by side.", () -> {
            performed("when not not not not right (lift 1) else (lift 2)", 2, 0, 1, cell(50, -30));
            performed("when not not not right (lift 1) else (lift 2)", 2, 0, 2, cell(-50, 30));
            performed("when not not not not right (when not not not not right (lift 1))", 3, 0, 1, cell(50, -30));
            Check.badScore("when not not not not not right ()", 2, 21);
            Check.badScore("when not not not not not", 2, 21);
            Check.badScore("when not not not not not not x", 2, 21);
            Check.badScore("when not not not not x", 1, 21);
        });
    }

    private static String many(String text, int times) {
        StringBuilder s = new StringBuilder();
        for (int i = 0; i < times; i++) {
            s.append(text);
        }
        return s.toString();
    }

    private static void fromTheStart(Edges e) {
        e.edge(PART, "PERFORMED, from TICK 0, nothing marked, PENNIES, STARTS, SIZES as they are (behind it they are "
            + "so again), with CARTS.", () -> {
            PenSwings x = Check.scored(SWINGS + "cart 0 20 -20;cart 2 0 20;pennies 1 0 0 9;", "draw 3 penny 0 5 size "
                + "2 60 penny 3 -9 turn");
            x.set(0, 1, 99);
            x.set(0, 2, 10);
            // A period of 5: u is 4, 0, 1, and -10, 10, 10 along; then one of 10: u is 2, and 10; across 30, -30, 30, then -90.
            for (int i = 0; i < 2; i++) {
                Check.is("acts", x.performed(0), 5);
                Check.is("from tick 0", x.marks(cell(10, 10)), 1);
                Check.is("tick 1", x.marks(cell(30, -50)), 1);
                Check.is("tick 2", x.marks(cell(30, 30)), 1);
                Check.is("marked", x.performed(1), 3);
                Check.is("at the end", x.performed(2), 3);
                Check.is("size, pennies, turned", x.performed(3), cell(-90, 30));
                Check.row("as they were", new int[] {x.pendulum(0, 5), x.pendulum(3, 5), x.pendulum(2, 2), x.pendulum(0,
                    3), x.pen(0, 0)},
                    1, 9, 30, 99, 10);
            }
            PenSwings y = Check.scored("", "draw 1");
            Check.is("marked once", y.marks(cell(0, 0)), 1);
            y.set(0, 0, 1);
            Check.is("nothing is marked at first", y.marks(cell(0, 0)), 1);
            PenSwings z = Check.scored(SWINGS, "draw 1");
            z.keep();
            z.image();
            Check.is("as it is", z.marks(START), 1);
            z.set(0, 2, 90);
            Check.row("set", new int[] {z.marks(START), z.marks(cell(90, 30))}, 0, 1);
            z.take(0);
            Check.row("taken", new int[] {z.marks(START), z.marks(cell(90, 30))}, 1, 0);
            z.set(0, 2, 90);
            Check.is("set again", z.marks(START), 0);
            z.restore();
            Check.is("restored", z.marks(START), 1);
        });
    }

    private static void ticksAndMarks(Edges e) {
        e.edge(PART, "Draw: so many times, the CELL in which THE PEN is at the TICK is marked, and the TICK is one "
            + "more.", () -> {
            PenSwings x = performed("draw 1", 1, 1, 1, cell(50, -30));
            Check.is("the first tick's", x.marks(START), 1);
            Check.is("not the next one's", x.marks(cell(50, -30)), 0);
            PenSwings y = performed("draw 200", 1, 4, 200, START);
            Check.is("a fourth of them", y.marks(START), 50);
            PenSwings z = performed("draw 4 draw 1", 2, 4, 5, cell(50, -30));
            Check.is("a cell twice", z.marks(START), 2);
        });
        e.edge(PART, "Lift: the TICK is so many more.", () -> {
            PenSwings x = performed("lift 1 draw 1 lift 200", 3, 1, 202, cell(-50, 30));
            Check.is("nothing is marked by it", x.marks(START), 0);
            Check.is("but behind it", x.marks(cell(50, -30)), 1);
        });
    }

    private static void changes(Edges e) {
        e.edge(PART, "Penny, size: PENNIES, SIZE of a PENDULUM are so many more (0 at least, 9, 90 at most).", () -> {
            performed("size 0 -50", 1, 0, 0, cell(0, 30));
            performed("size 0 -51 size 0 60", 2, 0, 0, cell(60, 30));
            performed("size 0 40 size 0 -30", 2, 0, 0, cell(60, 30));
            performed("size 0 41 size 0 -30", 2, 0, 0, cell(60, 30));
            performed("size 0 90 size 0 90 size 0 -90 size 0 30", 4, 0, 0, cell(30, 30));
            // 4 and 9 pennies: 13, of which 6 is the last one on the right; 4 and 8: 12, of which 5 is.
            performed("penny 0 9 penny 0 1 lift 6", 3, 0, 6, cell(50, 30));
            performed("penny 0 9 penny 0 9 penny 0 -1 lift 6", 4, 0, 6, cell(-50, 30));
            performed("penny 0 -1 lift 1", 2, 0, 1, cell(50, -30));
            performed("penny 0 -9 penny 0 9 lift 6", 3, 0, 6, cell(50, 30));
            performed("penny 0 0 size 0 0", 2, 0, 0, START);
        });
        e.edge(PART, "Turn: along and across are one another's from now on (and back by another one).", () -> {
            PenSwings x = performed("draw 1 turn draw 1 turn draw 1", 5, 3, 3, cell(-50, -30));
            Check.is("as it is", x.marks(START), 1);
            Check.is("turned", x.marks(cell(-30, 50)), 1);
            Check.is("and back", x.marks(cell(-50, 30)), 1);
            performed("turn", 1, 0, 0, cell(30, 50));
            performed("turn turn", 2, 0, 0, START);
            performed("lift 1 turn when right (lift 2)", 3, 0, 1, cell(-30, 50));
            performed("lift 1 turn when above (lift 2)", 4, 0, 3, cell(-30, -50));
            PenSwings y = Check.scored(SWINGS + "cart 0 20 -20;", "turn draw 1");
            Check.is("carts, too", y.marks(cell(10, 70)), 1);
        });
    }

    private static void blocksPerformed(Edges e) {
        e.edge(PART, "Repeat: the BLOCK so many times.", () -> {
            performed("repeat 0 (draw 1 repeat 3 (turn)) lift 1", 2, 0, 1, cell(50, -30));
            performed("repeat 1 (draw 1)", 2, 1, 1, cell(50, -30));
            performed("repeat 20 (draw 1)", 21, 4, 20, START);
            performed("repeat 20 ()", 1, 0, 0, START);
            performed("repeat 3 (repeat 0 (turn) lift 1)", 7, 0, 3, cell(-50, -30));
            performed("repeat 3 (repeat 2 (lift 1) lift 1)", 1 + 3 * 4, 0, 9, cell(50, -30));
            performed("repeat 2 (repeat 2 (repeat 2 (repeat 2 (repeat 2 (lift 1)))))", 1 + 2 + 4 + 8 + 16 + 32, 0, 32, START);
        });
        e.edge(PART, "When: the BLOCK, if TEST holds, else the other one, if there is one.", () -> {
            performed("when right (lift 1) else (lift 2) lift 4", 3, 0, 5, cell(50, -30));
            performed("when not right (lift 1) else (lift 2) lift 4", 3, 0, 6, cell(-50, 30));
            performed("when not right (lift 1) lift 4", 2, 0, 4, START);
            performed("when not right (lift 1) else () lift 4", 2, 0, 4, START);
            performed("when right () else (lift 2) lift 4", 2, 0, 4, START);
            performed("when right (when not above (lift 1)) else (lift 2)", 2, 0, 0, START);
            performed("when right (when not above (lift 1) else (lift 3)) else (lift 2)", 3, 0, 3, cell(-50, -30));
            performed("repeat 3 (when right (lift 1) else (lift 2))", 1 + 3 * 2, 0, 4, START);
        });
    }

    private static void tests(Edges e) {
        String low = "pendulum kick 2 1 0 0;pendulum kick 2 0 0 0;pendulum kick 2 1 0 0;";
        e.edge(PART, "TEST at the TICK now: marked: the CELL in which THE PEN is;", () -> {
            performed("when marked (lift 1) else (lift 2)", 2, 0, 2, cell(-50, 30));
            performed("draw 1 when marked (lift 1) else (lift 2)", 3, 1, 3, cell(-50, -30));
            performed("draw 4 when marked (lift 1) else (lift 2)", 3, 4, 5, cell(50, -30));
            performed("draw 1 turn lift 3 when marked (lift 1) else (lift 2)", 5, 1, 6, cell(30, -50));
        });
        e.edge(PART, "right: it is along above 0;", () -> {
            Check.is("1", Check.scored(low, "when right (lift 7)").performed(2), 7);
            Check.is("0", Check.scored(low, "size 0 -1 when right (lift 7)").performed(2), 0);
            Check.is("-1", Check.scored(low, "lift 1 when right (lift 7)").performed(2), 1);
            Check.is("not 0", Check.scored(low, "size 0 -1 when not right (lift 7)").performed(2), 7);
            Check.is("by a cart", Check.scored("cart 2 1 0;", "lift 1 when right (lift 7)").performed(2), 1);
            Check.is("by a cart at its tick", Check.scored("cart 2 1 0;", "lift 2 when right (lift 7)").performed(2), 9);
        });
        e.edge(PART, "above: across;", () -> {
            Check.is("1", Check.scored(low, "when above (lift 7)").performed(2), 7);
            Check.is("0", Check.scored(low, "size 2 -1 when above (lift 7)").performed(2), 0);
            Check.is("-1", Check.scored(low, "lift 1 when above (lift 7)").performed(2), 1);
            Check.is("not 0", Check.scored(low, "size 2 -1 when not above (lift 7)").performed(2), 7);
            Check.is("by a cart", Check.scored("cart 2 0 1;", "lift 1 when above (lift 7)").performed(2), 1);
            Check.is("by a cart at its tick", Check.scored("cart 2 0 1;", "lift 2 when above (lift 7)").performed(2), 9);
        });
        e.edge(PART, "loud: the PENDULUM is not at 0.", () -> {
            Check.is("1", Check.scored(low, "when loud 0 (lift 7)").performed(2), 7);
            Check.is("-1", Check.scored(low, "lift 1 when loud 0 (lift 7)").performed(2), 8);
            Check.is("SIZE 0", Check.scored(low, "when loud 1 (lift 7)").performed(2), 0);
            Check.is("untold", Check.scored(low, "when loud 3 (lift 7)").performed(2), 0);
            String even = "pendulum even 8 40 0 0;cart 0 9 9;";
            Check.is("on its way through 0, at the first tick", Check.scored(even, "when loud 0 (lift 1)").performed(2), 0);
            Check.is("on its way through 0, at the half", Check.scored(even, "lift 4 when loud 0 (lift 1)").performed(2), 4);
            Check.is("beside 0", Check.scored(even, "lift 5 when loud 0 (lift 1)").performed(2), 6);
            Check.is("died away", Check.scored("pendulum kick 2 90 0 99;", "lift 2 when loud 0 (lift 1)").performed(2), 2);
            Check.is("not yet", Check.scored("pendulum kick 2 90 0 99;", "lift 1 when loud 0 (lift 1)").performed(2), 2);
            Check.is("turned: the same one", Check.scored(low,
                "turn when loud 0 (lift 1) when loud 1 (lift 2)").performed(2), 1);
        });
    }

    private static void spent(Edges e) {
        e.edge(PART, "It is SPENT, as soon as a 1001st ACT would begin,", () -> {
            performed(THOUSAND, 1000, 0, 0, START);
            spent(THOUSAND + "turn");
            spent(THOUSAND + "repeat 0 ()");
            spent(THOUSAND + "when not right (turn)");
            spent("turn " + THOUSAND);
            performed(THOUSAND.replace("turn", "when not right (turn) else ()"), 1000, 0, 0, START);
            // Rounds of an empty block begin no act.
            performed(THOUSAND.replace("turn", "repeat 20 ()"), 1000, 0, 0, START);
        });
        e.edge(PART, "or the TICK would be above 9999.", () -> {
            // 7 by 7 by 200 are 9800.
            String most = "repeat 7 (repeat 7 (lift 200)) ";
            performed(most + "lift 199", 1 + 7 * 8 + 1, 0, 9999, cell(-50, -30));
            spent(most + "lift 200");
            spent(most + "lift 199 lift 1");
            spent(most + "lift 199 draw 1");
            PenSwings x = performed(most + "draw 199", 1 + 7 * 8 + 1, 4, 9999, cell(-50, -30));
            Check.is("the last but one is marked", x.marks(cell(-50, 30)), 50);
            Check.is("the last is not", x.marks(cell(-50, -30)), 49);
            spent(most + "draw 200");
            spent(most + "lift 198 draw 2");
            performed(most + "lift 198 draw 1 turn when marked (turn)", 1 + 7 * 8 + 4, 1, 9999, cell(-30, -50));
            performed(most.replace("lift", "draw") + "draw 199", 1 + 7 * 8 + 1, 4, 9999, cell(-50, -30));
            spent(most.replace("lift", "draw") + "draw 200");
        });
    }

    private static void status(Edges e) {
        e.edge(PART, "STATUS: how many calls were refused: 0 of TEXTS with a FAULT (of SCORES too), 1 of what is set, "
            + "2 of PORTRAITS, 3 of POINTS, 4 of BIRTHDAYS.", () -> {
                PenSwings x = new PenSwings();
                Check.row("none at first", Seen.status(x), 0, 0, 0, 0, 0);
                Check.swings(x, "x");
                Check.score(x, "x");
                Check.score(x, "turn");
                x.set(0, 0, 10);
                x.set(0, 1, 100);
                x.set(0, 2, 91);
                x.set(0, 2, 90);
                for (int i = 0; i < 12; i++) {
                    x.keep();
                    x.birthday(i);
                }
                for (int i = 0; i < 11; i++) {
                    x.point(i, i, i);
                }
                Check.row("each of its own", Seen.status(x), 2, 3, 4, 5, 2);
                Check.swings(x, "");
                x.image();
                x.restore();
                Check.row("it stays", Seen.status(x), 2, 3, 4, 5, 2);
                Check.illegal("thrown", () -> x.swings(1));
                Check.noSuch("thrown", () -> x.set(4, 0, 0));
                Check.noSuch("thrown", () -> x.alike(0, 0));
                Check.illegal("thrown", () -> x.evening(1));
                x.unpoint();
                for (int i = 0; i < 21; i++) {
                    x.feed(0, 0, 0, 0, 0);
                }
                Check.row("nothing else counts", Seen.status(x), 2, 3, 4, 5, 2);
            });
        e.edge(PART, "The constants: `NONE = -1`: There is none.", () -> {
            Check.is("NONE", PenSwings.NONE, -1);
            Check.is("of points", new PenSwings().unpoint(), -1);
        });
    }

    private static void score(Edges e) {
        e.edge(4, "The tape's first n bytes (it is empty then) are the SCORE, in place of another one: 0, or the "
            + "FAULT (it stays as it was).", () -> {
            PenSwings x = Check.scored(SWINGS, "lift 1");
            Check.feed(x, "lift 23 lift 4");
            Check.is("cut in a number", x.score(6), 0);
            Check.row("in place of the other one", new int[] {x.count(5), x.performed(0), x.performed(2)}, 0, 1, 2);
            Check.feed(x, "turnturn");
            Check.is("cut in a word", x.score(4), 0);
            Check.row("in place of that", new int[] {x.count(5), x.performed(0), x.performed(2)}, 0, 1, 0);
            Seen.kept("a fault", x, () -> Check.is("at the end", Check.score(x, "lift 2 lift 3 lift"), 1));
            Check.row("the tape is empty", new int[] {x.count(5), x.count(6), x.fault()}, 0, 1, 18);
            Seen.kept("another fault", x, () -> Check.is("too deep", Check.score(x, many("repeat1(", 6)), 2));
            for (String wrong : new String[] {"lift 9 x", "lift 0", "lift 9 repeat 1 lift 9", "repeat 1 (lift 9",
                "lift 9)", "when (lift 9)",
                "when right lift 9", "penny 4 1 lift 9", "lift 9 size 0 91", "when loud 4 () lift 9", "when right () "
                    + "else lift 9",
                "lift 9 when not not not not not right ()", "lift 9;"}) {
                Check.is("a fault: " + wrong, Check.score(x, wrong) > 0 ? 1 : 0, 1);
                Check.row("it stays behind " + wrong, new int[] {x.performed(0), x.performed(2)}, 1, 0);
            }
            Check.feed(x, "lift 2");
            Check.is("no bytes of a tape", x.score(0), 0);
            Check.row("no acts", new int[] {x.count(5), x.performed(0)}, 0, 0);
            Check.is("no bytes of no tape", x.score(0), 0);
            PenSwings y = Seen.rich();
            int acts = y.performed(0);
            y.score(0);
            Check.row("nothing else goes", new int[] {acts, y.performed(0), y.count(0), y.count(2), y.count(3),
                y.count(4)}, 3, 0, 4, 3, 2, 3);
            Check.is("nor the evening", y.drawing(0) >= 0 ? 1 : 0, 1);
            Check.is("nor the image", y.restore() ? 1 : 0, 1);
        });
        e.edge(4, "At first, and with SWINGS, it has no ACTS.", () -> {
            PenSwings x = new PenSwings();
            Check.row("at first", answers(x), 0, 0, 0, cell(0, 0));
            Check.is("a score", Check.score(x, "draw 3"), 0);
            Check.row("then", answers(x), 1, 1, 3, cell(0, 0));
            Check.is("swings with a fault", Check.swings(x, "x"), 1);
            Check.row("it stays", answers(x), 1, 1, 3, cell(0, 0));
            Check.is("swings", Check.swings(x, ""), 0);
            Check.row("gone", answers(x), 0, 0, 0, cell(0, 0));
            Check.is("a fault", Check.score(x, "draw 3 x"), 1);
            Check.row("still none", answers(x), 0, 0, 0, cell(0, 0));
        });
        e.edge(4, "IllegalArgumentException: as swings().", () -> {
            PenSwings x = Seen.rich();
            Seen.unchanged("scores that can't be", x, () -> {
                for (int n : new int[] {21, 400, 401, -1, FAR[0], FAR[1]}) {
                    Check.illegal("score " + n, () -> x.score(n));
                }
            });
            Check.is("the tape has 20", x.score(20), 1);
            Check.illegal("it has none now", () -> x.score(1));
        });
    }

    private static void performed(Edges e) {
        e.edge(5, "The SCORE PERFORMED: ACTS that began (what 0), CELLS that are marked (1), the TICK at the end (2), "
            + "the CELL in which THE PEN is then (3).", () -> {
                performed("", 0, 0, 0, START);
                performed("draw 3 lift 1", 2, 3, 4, START);
                PenSwings x = Check.scored("pendulum kick 2 90 0 0;pendulum kick 2 90 0 0;"
                    + "pendulum kick 2 90 0 0;pendulum kick 2 90 0 0;"
                    + "cart 0 20 20;cart 0 20 20;cart 0 20 20;cart 0 20 20;", "draw 2");
                Check.row("in the last cell of all", answers(x), 1, 2, 2, 728);
            });
        e.edge(5, "-2: SPENT.", () -> {
            PenSwings x = performed(THOUSAND + "turn", -2, -2, -2, -2);
            Check.is("another score", Check.score(x, "turn"), 0);
            Check.row("not SPENT any more", answers(x), 1, 0, 0, cell(30, 50));
        });
        e.edge(5, "NoSuchElementException: another what.", () -> {
            PenSwings x = Seen.rich();
            PenSwings y = performed(THOUSAND + "turn", -2, -2, -2, -2);
            Seen.unchanged("no such what", x, () -> {
                for (int what : new int[] {-1, 4, FAR[0], FAR[1]}) {
                    Check.noSuch("performed " + what, () -> x.performed(what));
                    Check.noSuch("performed " + what + ", SPENT", () -> y.performed(what));
                }
            });
        });
    }

    private static void marks(Edges e) {
        e.edge(6, "How often a CELL is marked by the SCORE;", () -> {
            PenSwings x = performed("draw 200 draw 1", 2, 4, 201, cell(50, -30));
            Check.row("how often", new int[] {x.marks(START), x.marks(cell(50, -30)), x.marks(0), x.marks(728)}, 51, 50, 0, 0);
            PenSwings y = Check.scored("", "repeat 7 (repeat 7 (draw 200)) draw 199");
            Check.is("as often as can be", y.marks(cell(0, 0)), 9999);
            Check.is("none at first", new PenSwings().marks(cell(0, 0)), 0);
        });
        e.edge(6, "-2: SPENT.", () -> {
            PenSwings x = performed("draw 1 " + THOUSAND, -2, -2, -2, -2);
            Check.row("marked or not", new int[] {x.marks(START), x.marks(0), x.marks(728)}, -2, -2, -2);
        });
        e.edge(6, "NoSuchElementException: no such CELL.", () -> {
            PenSwings x = performed("draw 1", 1, 1, 1, cell(50, -30));
            PenSwings y = performed(THOUSAND + "turn", -2, -2, -2, -2);
            for (int cell : new int[] {-1, 729, FAR[0], FAR[1]}) {
                Check.noSuch("marks " + cell, () -> x.marks(cell));
                Check.noSuch("marks " + cell + ", SPENT", () -> y.marks(cell));
            }
        });
    }
}
