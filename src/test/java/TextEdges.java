/** The tape, the text that tells the swings, its faults: "What it is", "Terms", promises 1, 2, 3, 7, 8. */
final class TextEdges {
    private static final String TERMS = "Terms";
    private static final String PENDULUM = "pendulum even 8 5 0 0;";
    private static final String FOUR_PENDULUMS = PENDULUM + PENDULUM + PENDULUM + PENDULUM;
    private static final String CART = "cart 1 2 -3;";
    private static final String FOUR_CARTS = CART + CART + CART + CART;

    private TextEdges() {
    }

    static void all(Edges e) {
        whatItIs(e);
        numbersOfPendulums(e);
        carts(e);
        tokens(e);
        lines(e);
        faultsPlaced(e);
        faultOne(e);
        faultTwo(e);
        newObject(e);
        feed(e);
        swings(e);
        fault(e);
        count(e);
    }

    private static void whatItIs(Edges e) {
        String section = "What it is";
        e.plain(section, "Four pendulums and a pen: two that move it along and two across, of kinds, by whole ticks, "
            + "with sizes "
            + "that die away; pennies that slow them; carts in the street that shake it; cells of paper that are drawn; when "
            + "all would come round, and how far off it is by then; portraits that are kept, and which are alike but for size, "
            + "turning or start, how many kinds there are; which pennies drew told points, chords by fewest pennies moved, "
            + "when a cart went by; birthdays made pennies so that no two of a parish are alike; two portraits laid together; "
            + "an evening of drawings with tea; a score told in words, performed. ==== 1.");
        e.edge(section, "An object is used for at most 512 calls after it has been made; what later calls answer is "
            + "free.", () -> {
            PenSwings x = new PenSwings();
            for (int call = 1; call < 512; call++) {
                Check.is("call " + call, x.set(0, 0, 10), PenSwings.NONE);
            }
            Check.is("call 512", x.count(7), 511);
            PenSwings y = new PenSwings();
            for (int call = 1; call < 512; call += 2) {
                Check.is("call " + call, y.set(0, 1, call % 100), call == 1 ? 0 : (call - 2) % 100);
                Check.is("call " + (call + 1), y.performed(3), 13 * 27 + 13);
            }
        });
    }

    private static void taken(String text, int pendulum, int what, int due) {
        Check.is(text, Check.told(text).pendulum(pendulum, what), due);
    }

    private static void numbersOfPendulums(Edges e) {
        e.plain(TERMS, "PENDULUMS 0, 1 move the pen along, 2, 3 across. Each has a KIND: 0 even, 1 bowl, 2 kick;");
        e.edge(TERMS, "a LENGTH (2 to 40),", () -> {
            taken("pendulum even 2 5 0 0;", 0, 1, 2);
            taken("pendulum even 40 5 0 0;", 0, 1, 40);
            Check.badSwings("pendulum even 1 5 0 0;", 2, 14);
            Check.badSwings("pendulum even 0 5 0 0;", 2, 14);
            Check.badSwings("pendulum even 41 5 0 0;", 2, 14);
        });
        e.edge(TERMS, "a SIZE (0 to 90),", () -> {
            taken("pendulum even 8 0 0 0;", 0, 2, 0);
            taken("pendulum even 8 90 0 0;", 0, 2, 90);
            Check.badSwings("pendulum even 8 91 0 0;", 2, 16);
        });
        e.edge(TERMS, "a START (0 to 99),", () -> {
            taken("pendulum even 8 5 0 0;", 0, 3, 0);
            taken("pendulum even 8 5 99 0;", 0, 3, 99);
            Check.badSwings("pendulum even 8 5 100 0;", 2, 18);
        });
        e.edge(TERMS, "a LOSS (0 to 99),", () -> {
            taken("pendulum even 8 5 0 0;", 0, 4, 0);
            taken("pendulum even 8 5 0 99;", 0, 4, 99);
            Check.badSwings("pendulum even 8 5 0 100;", 2, 20);
        });
        e.edge(TERMS, "PENNIES (0 to 9).", () -> {
            for (int p = 0; p < 4; p++) {
                taken("pennies 0 0 0 0;", p, 5, 0);
                taken("pennies 9 9 9 9;", p, 5, 9);
            }
            Check.badSwings("pennies 10 0 0 0;", 2, 8);
            Check.badSwings("pennies 0 10 0 0;", 2, 10);
            Check.badSwings("pennies 0 0 10 0;", 2, 12);
            Check.badSwings("pennies 0 0 0 10;", 2, 14);
        });
        e.edge(TERMS, "PERIOD is LENGTH and PENNIES.", () -> {
            taken("pendulum even 2 0 0 0;", 0, 6, 2);
            taken("pendulum even 40 0 0 0;pennies 9 0 0 0;", 0, 6, 49);
        });
        e.edge(TERMS, "(Untold ones are even, of LENGTH 2, SIZE 0, START 0, LOSS 0.)", () -> {
            PenSwings x = Check.told("pendulum kick 8 5 7 6;pendulum bowl 9 5 7 6;pendulum kick 8 5 7 6;"
                + "pendulum bowl 9 5 7 6;");
            Check.is("told anew, one", Check.swings(x, "pendulum kick 8 5 7 6;"), 0);
            for (int p = 1; p < 4; p++) {
                Check.row("untold " + p, pendulum(x, p), 0, 2, 0, 0, 0, 0, 2);
            }
            Check.row("told", pendulum(x, 0), 2, 8, 5, 7, 6, 0, 8);
            Check.is("told anew, none", Check.swings(x, ""), 0);
            Check.row("untold 0", pendulum(x, 0), 0, 2, 0, 0, 0, 0, 2);
        });
    }

    private static int[] pendulum(PenSwings x, int p) {
        int[] all = new int[7];
        for (int what = 0; what < 7; what++) {
            all[what] = x.pendulum(p, what);
        }
        return all;
    }

    private static void carts(Edges e) {
        e.edge(TERMS, "CARTS (at most 4):", () -> {
            PenSwings x = Check.told("cart 0 1 20;cart 0 2 -20;cart 0 4 20;cart 0 8 -19;");
            Check.is("carts", x.count(1), 4);
            Check.is("all four along", x.pen(0, 0), 15);
            Check.is("all four across", x.pen(0, 1), 1);
            Check.badSwings("cart 0 1 20;cart 0 2 -20;cart 0 4 20;cart 0 8 -19;cart 0 1 1;", 2, 50);
        });
        e.edge(TERMS, "from a TICK (0 to 999) on", () -> {
            PenSwings x = Check.told("cart 0 1 0;cart 999 2 0;cart 500 4 0;");
            int[] ticks = {0, 1, 499, 500, 998, 999, 1000, 9999};
            int[] due = {1, 1, 1, 5, 5, 7, 7, 7};
            for (int i = 0; i < ticks.length; i++) {
                Check.is("along at " + ticks[i], x.pen(ticks[i], 0), due[i]);
            }
            Check.badSwings("cart 1000 1 0;", 2, 5);
        });
        e.edge(TERMS, "the pen is moved by so much along and across (-20 to 20 each).", () -> {
            PenSwings x = Check.told("cart 0 20 -20;cart 1 -20 20;cart 1 -20 20;");
            Check.is("most along", x.pen(0, 0), 20);
            Check.is("least across", x.pen(0, 1), -20);
            Check.is("least along", x.pen(1, 0), -20);
            Check.is("most across", x.pen(1, 1), 20);
            Check.badSwings("cart 0 21 0;", 2, 7);
            Check.badSwings("cart 0 -21 0;", 2, 8);
            Check.badSwings("cart 0 0 21;", 2, 9);
            Check.badSwings("cart 0 0 -21;", 2, 10);
        });
    }

    private static String many(String text, int times) {
        StringBuilder s = new StringBuilder();
        for (int i = 0; i < times; i++) {
            s.append(text);
        }
        return s.toString();
    }

    private static void tokens(Edges e) {
        e.edge(TERMS, "A TEXT of at most 400 bytes tells it.", () -> {
            Check.is("a line at the end of 400 bytes", Check.told(many(" ", 378) + PENDULUM).count(0), 1);
            Check.badSwings(many("\n", 399) + "x", 1, 399);
            // 44 repeats of 9 bytes each and one turn are 400 bytes and 45 acts; 80 turns with a blank each are 400, too.
            Check.is("400 bytes of acts", Check.scored("", many("repeat1()", 44) + "turn").performed(0), 45);
            Check.is("400 bytes of turns", Check.scored("", many("turn ", 80)).performed(0), 80);
        });
        e.edge(TERMS, "TOKENS: words (a .. z, the longest row),", () -> {
            Check.is("a digit ends a word", Check.told("pendulum even8 5 0 0;").count(0), 1);
            Check.badSwings("pendulumeven 8 5 0 0;", 1, 0);
            Check.badSwings("pendulumz even 8 5 0 0;", 1, 0);
            Check.badSwings("apendulum even 8 5 0 0;", 1, 0);
            Check.badSwings("pendulu", 1, 0);
            Check.badSwings("pendulum`even 8 5 0 0;", 1, 8);
            Check.badSwings("pendulum{even 8 5 0 0;", 1, 8);
            Check.badSwings("pendulumEven 8 5 0 0;", 1, 8);
            Check.badSwings("pendulum even" + (char) 225 + "8 5 0 0;", 1, 13);
        });
        e.edge(TERMS, "NUMBERS (1 to 3 digits),", () -> {
            PenSwings x = Check.told("cart 9 9 0;cart 010 010 -001;cart099 1 1;");
            Check.is("of one digit", x.pen(9, 0), 9);
            Check.is("of three digits", x.pen(10, 0), 19);
            Check.is("of three digits, below 0", x.pen(10, 1), -1);
            Check.is("next to a word", x.pen(98, 0), 19);
            Check.is("the same as 99", x.pen(99, 0), 20);
            Check.badSwings("cart 5/3 3;", 1, 6);
            Check.badSwings("cart 5:3 3;", 1, 6);
        });
        e.edge(TERMS, "signs ; - and blanks (32, 10) between them, which count for nothing.", () -> {
            Check.is("without blanks", Check.told("cart5-3-4;cart5 3-4;pennies0 0 0 0;").pen(5, 1), -8);
            Check.is("with many", Check.told(" \n cart \n5\n\n-\n 3  -  4 \n ; \n").pen(5, 1), -4);
            Check.is("blanks alone", Check.told(" \n\n ").count(1), 0);
            int[] none = {0, 9, 11, 12, 13, 31, 33, 127, 128, 138, 160, 255};
            for (int sign : none) {
                Check.badSwings("cart 5" + (char) sign + "3 3;", 1, 6);
            }
            Check.badSwings("car t 5 3 3;", 1, 0);
            Check.badSwings("cart 1 5 3 3;", 1, 11);
            for (String sign : new String[] {"(", ")", "+", ",", ".", ":", "_", "<"}) {
                Check.badSwings("cart 5 3 3" + sign, 1, 10);
            }
        });
    }

    private static void lines(Edges e) {
        e.plain(TERMS, "In quotes is what stands there, [ ] perhaps, * any number of times, | one of some.");
        e.edge(TERMS, "SWINGS: LINE*.", () -> {
            PenSwings x = Check.told(FOUR_PENDULUMS + FOUR_CARTS + "pennies 1 2 3 4;");
            Check.is("all lines that can be, pendulums", x.count(0), 4);
            Check.is("all lines that can be, carts", x.count(1), 4);
            Check.is("no line", Check.swings(x, ""), 0);
            Check.is("no pendulums", x.count(0), 0);
            Check.is("no carts", x.count(1), 0);
            PenSwings y = Check.told("pennies 1 2 3 4;" + CART + PENDULUM + CART + PENDULUM);
            Check.is("in any order, pendulums", y.count(0), 2);
            Check.is("in any order, carts", y.count(1), 2);
        });
        e.edge(TERMS, "LINE: ('pendulum' ('even' | 'bowl' | 'kick') LENGTH SIZE START LOSS | 'cart' TICK SIGNED "
            + "SIGNED | 'pennies' NUMBER NUMBER NUMBER NUMBER) ';', all in capitals but SIGNED being NUMBERS;", () -> {
                tooFewOrMany();
                Check.badSwings("pendulum even -8 5 0 0;", 1, 14);
                Check.badSwings("pendulum even 8 -5 0 0;", 1, 16);
                Check.badSwings("pendulum even 8 5 -0 0;", 1, 18);
                Check.badSwings("pendulum even 8 5 0 -0;", 1, 20);
                Check.badSwings("cart -5 3 3;", 1, 5);
                Check.badSwings("pennies -0 0 0 0;", 1, 8);
                Check.badSwings("pennies 0 0 0 -0;", 1, 14);
            });
        e.edge(TERMS, "SIGNED: ['-'] NUMBER.", () -> {
            PenSwings x = Check.told("cart 0 - 3 -0;cart 1 0-5;");
            Check.is("a blank behind it", x.pen(0, 0), -3);
            Check.is("0 below 0", x.pen(0, 1), 0);
            Check.is("no blank ahead of it", x.pen(1, 1), -5);
            Check.badSwings("cart 5 --3 3;", 1, 8);
            Check.badSwings("cart 5 -;", 1, 8);
            Check.badSwings("cart 5 3 -;", 1, 10);
            Check.badSwings("cart 5 -x 3;", 1, 8);
        });
        e.plain(TERMS, "PENDULUMS are numbered as they come;");
        e.edge(TERMS, "PENNIES are 0 of all at first.", () -> {
            PenSwings x = Check.told(FOUR_PENDULUMS + "pennies 1 2 3 4;");
            x.set(0, 0, 9);
            Check.is("told anew", Check.swings(x, FOUR_PENDULUMS), 0);
            for (int p = 0; p < 4; p++) {
                Check.is("pennies of " + p, x.pendulum(p, 5), 0);
            }
        });
    }

    private static void tooFewOrMany() {
        Check.badSwings(";", 1, 0);
        Check.badSwings("even 8 5 0 0;", 1, 0);
        Check.badSwings("8 5 0 0;", 1, 0);
        Check.badSwings("pendulum 8 5 0 0;", 1, 9);
        Check.badSwings("pendulum cart 8 5 0 0;", 1, 9);
        Check.badSwings("pendulum even bowl 8 5 0 0;", 1, 14);
        Check.badSwings("pendulum even;", 1, 13);
        Check.badSwings("pendulum even 8;", 1, 15);
        Check.badSwings("pendulum even 8 5;", 1, 17);
        Check.badSwings("pendulum even 8 5 0;", 1, 19);
        Check.badSwings("pendulum even 8 5 0 0 0;", 1, 22);
        Check.badSwings("pendulum even 8 5 0 0 cart", 1, 22);
        Check.badSwings(PENDULUM + ";", 1, 22);
        Check.badSwings("cart;", 1, 4);
        Check.badSwings("cart 5;", 1, 6);
        Check.badSwings("cart 5 3;", 1, 8);
        Check.badSwings("cart 5 3 3 3;", 1, 11);
        Check.badSwings("pennies;", 1, 7);
        Check.badSwings("pennies 0 0 0;", 1, 13);
        Check.badSwings("pennies 0 0 0 0 0;", 1, 16);
    }

    private static void faultsPlaced(Edges e) {
        e.edge(TERMS, "FAULTS, the first along the text,", () -> {
            Check.badSwings("pendulum even 41 91 100 100 pendulum", 2, 14);
            Check.badSwings("pendulum even 8 91 x", 2, 16);
            Check.badSwings("pendulum even 8 x 100 100;", 1, 16);
            Check.badSwings("pennies 0 0 0 0;pennies 10 x", 3, 16);
            Check.badSwings("pennies 0 0 0 10;pennies", 2, 14);
        });
        e.edge(TERMS, "at a TOKEN's first byte,", () -> {
            Check.badSwings("   abcdefghij", 1, 3);
            Check.badSwings("cart \n 12345 1 1;", 2, 7);
            Check.badSwings("pennies 0 0 0 0; \n pennies", 3, 19);
            Check.badSwings("cart 5 -   21 0;", 2, 11);
        });
        e.edge(TERMS, "of one TOKEN the least:", () -> {
            Check.badSwings("1234", 1, 0);
            Check.badSwings("pendulum 1234", 1, 9);
            Check.badSwings("cart 1 2 3 1234", 1, 11);
            Check.badSwings("pennies 0 0 0 0;cart pennies", 1, 21);
            Check.badSwings("pennies 0 0 0 pennies", 1, 14);
            Check.badSwings(FOUR_PENDULUMS + "cart pendulum", 1, 93);
            Check.badSwings(FOUR_CARTS + "pendulum cart", 1, 57);
        });
    }

    private static void faultOne(Edges e) {
        e.edge(TERMS, "1 a TOKEN that can't stand there, or is none", () -> {
            Check.badSwings("x", 1, 0);
            Check.badSwings("-", 1, 0);
            Check.badSwings("bendulum even 8 5 0 0;", 1, 0);
            Check.badSwings("part 1 1 1;", 1, 0);
            Check.badSwings("tennies 0 0 0 0;", 1, 0);
            Check.badSwings("pendulum oven 8 5 0 0;", 1, 9);
            Check.badSwings("pendulum howl 8 5 0 0;", 1, 9);
            Check.badSwings("pendulum sick 8 5 0 0;", 1, 9);
            Check.badSwings("pendulum pendulum", 1, 9);
            Check.badSwings("pendulum kicks 8 5 0 0;", 1, 9);
            Check.badSwings("pendulum even 8 5 0 0 -", 1, 22);
            Check.badSwings("cart x", 1, 5);
            for (int sign : new int[] {0, 1, 9, 13, 33, 47, 58, 64, 65, 90, 91, 96, 123, 127, 128, 200, 255}) {
                Check.badSwings(" " + (char) sign, 1, 1);
                Check.badSwings("pendulum even 8 5 0 0" + (char) sign, 1, 21);
            }
        });
        e.edge(TERMS, "(the text's length where it ends too soon);", () -> {
            String[] cut = {"pendulum", "pendulum even", "pendulum even 8", "pendulum even 8 5", "pendulum even 8 5 0",
                "pendulum even 8 5 0 0", "cart", "cart 5", "cart 5 -", "cart 5 3", "cart 5 3 -", "cart 5 3 3", "pennies",
                "pennies 0", "pennies 0 0", "pennies 0 0 0", "pennies 0 0 0 0", PENDULUM + "cart"};
            for (String text : cut) {
                Check.badSwings(text, 1, text.length());
                Check.badSwings(text + " \n", 1, text.length() + 2);
            }
            Check.badSwings(many(" ", 396) + "cart", 1, 400);
            PenSwings x = new PenSwings();
            Check.feed(x, PENDULUM);
            Check.is("a part of the tape", x.swings(21), 1);
            Check.is("the text's length, not the tape's", x.fault(), 21);
        });
    }

    private static void faultTwo(Edges e) {
        e.edge(TERMS, "2 one that can, but is too much: a NUMBER of 4 digits or more, or not as told,", () -> {
            Check.badSwings("pendulum even 0008 5 0 0;", 2, 14);
            Check.badSwings("pendulum even 8 0000 0 0;", 2, 16);
            Check.badSwings("pendulum even 8 5 0000 0;", 2, 18);
            Check.badSwings("pendulum even 8 5 0 0000;", 2, 20);
            Check.badSwings("cart 0005 3 3;", 2, 5);
            Check.badSwings("cart 5 0003 3;", 2, 7);
            Check.badSwings("cart 5 3 -0003;", 2, 10);
            Check.badSwings("pennies 0000 0 0 0;", 2, 8);
            // 8 more than what an int and a long go round by.
            Check.badSwings("pendulum even 4294967304 5 0 0;", 2, 14);
            Check.badSwings("pendulum even 18446744073709551624 5 0 0;", 2, 14);
            Check.badSwings("pendulum even " + many("0", 300) + "8 5 0 0;", 2, 14);
            Check.badSwings("pendulum even 999 5 0 0;", 2, 14);
        });
        e.edge(TERMS, "the first TOKEN of the 5th PENDULUM,", () -> {
            Check.is("four", Check.told(FOUR_PENDULUMS).count(0), 4);
            Check.badSwings(FOUR_PENDULUMS + PENDULUM, 2, 88);
            Check.badSwings(FOUR_PENDULUMS + CART + " pendulum", 2, 101);
            Check.badSwings(FOUR_PENDULUMS + "pendulum x 1234", 2, 88);
        });
        e.edge(TERMS, "the 5th CART;", () -> {
            Check.is("four", Check.told(FOUR_CARTS).count(1), 4);
            Check.badSwings(FOUR_CARTS + CART, 2, 48);
            Check.badSwings(FOUR_CARTS + PENDULUM + " cart", 2, 71);
            Check.badSwings(FOUR_CARTS + "cart x 1234", 2, 48);
        });
        e.edge(TERMS, "3 a second 'pennies'.", () -> {
            Check.is("one", Check.told("pennies 1 2 3 4;").pendulum(3, 5), 4);
            Check.badSwings("pennies 1 2 3 4;pennies 1 2 3 4;", 3, 16);
            Check.badSwings("pennies 0 0 0 0;" + PENDULUM + CART + "pennies", 3, 50);
            Check.badSwings("pennies 0 0 0 0;pennies x", 3, 16);
        });
    }

    private static void newObject(Edges e) {
        e.edge(1, "All untold.", () -> {
            PenSwings x = new PenSwings();
            for (int what = 0; what <= 10; what++) {
                Check.is("count " + what, x.count(what), 0);
            }
            for (int p = 0; p < 4; p++) {
                Check.row("pendulum " + p, pendulum(x, p), 0, 2, 0, 0, 0, 0, 2);
            }
            Check.is("no fault", x.fault(), PenSwings.NONE);
            Check.is("no acts", x.performed(0), 0);
            Check.is("the middle of the paper", x.performed(3), 13 * 27 + 13);
            Check.is("no point", x.unpoint(), PenSwings.NONE);
            Check.is("no image", x.restore() ? 1 : 0, 0);
            Check.noSuch("no portrait", () -> x.kinds(0));
            Check.noSuch("no evening", () -> x.drawing(PenSwings.NONE));
        });
    }

    private static void feed(Edges e) {
        e.edge(2, "Twenty bytes come behind the tape, of each number the highest first: how many it has;", () -> {
            PenSwings x = new PenSwings();
            Check.is("onto an empty tape", x.feed(0x63617274, 0x30302033, 0x2d34203b, 0x63617274, 0x20302d31), 20);
            Check.is("behind it", x.feed(0x31202d32, 0x303b0a0a, 0x20202020, 0xff800001, 0x7fffffff), 40);
            Check.is("bytes", x.count(5), 40);
            // "cart00 3-4 ;cart 0-11 -20;", two line ends, four blanks and bytes that are none.
            Check.is("up to the first that is none", x.swings(32), 0);
            Check.is("along", x.pen(0, 0), 3 - 11);
            Check.is("across", x.pen(0, 1), -4 - 20);
            Check.feed(x, "cart 1 1 1;");
            x.feed(0xff202020, 0, 0, 0, 0);
            Check.is("a high byte is none", x.swings(21), 1);
            Check.is("the highest byte comes first", x.fault(), 20);
        });
        e.edge(2, "NONE, and none come, if it would have more than 400.", () -> {
            PenSwings x = new PenSwings();
            for (int i = 1; i < 20; i++) {
                Check.is("feed " + i, x.feed(0x20202020, 0x20202020, 0x20202020, 0x20202020, 0x20202020), 20 * i);
            }
            int[] last = Check.words("cart 7 20 -20;      ", 0);
            Check.is("to the full", x.feed(last[0], last[1], last[2], last[3], last[4]), 400);
            Check.is("beyond it", x.feed(0x78787878, 0x78787878, 0x78787878, 0x78787878, 0x78787878), PenSwings.NONE);
            Check.is("once more", x.feed(0, 0, 0, 0, 0), PenSwings.NONE);
            Check.is("bytes", x.count(5), 400);
            Check.row("it is none of STATUS", Seen.status(x), 0, 0, 0, 0, 0);
            Check.is("they are as they were", x.swings(400), 0);
            Check.is("the cart of the last twenty", x.pen(7, 0), 20);
            Check.is("there is room again", x.feed(0, 0, 0, 0, 0), 20);
        });
    }

    private static void swings(Edges e) {
        e.edge(3, "The tape's first n bytes (it is empty then) are SWINGS, all anew: 0, or the FAULT (all stays).", () -> {
            PenSwings x = Check.told(FOUR_PENDULUMS + FOUR_CARTS);
            Check.feed(x, PENDULUM + CART + "xxx");
            Check.is("the first 34 bytes", x.swings(34), 0);
            Check.is("one pendulum", x.count(0), 1);
            Check.is("one cart", x.count(1), 1);
            Check.row("the pen of that one cart", new int[] {x.pen(9, 0) - x.swing(0, 9), x.pen(9, 1)}, 2, -3);
            Check.is("an empty tape behind swings", x.count(5), 0);
            Check.feed(x, PENDULUM);
            Check.is("no bytes of a tape", x.swings(0), 0);
            Check.row("no pendulum, no cart", new int[] {x.count(0), x.count(1), x.pen(9, 0), x.pen(9, 1)}, 0, 0, 0, 0);
            Check.is("an empty tape behind none of it", x.count(5), 0);
            Check.is("no bytes of no tape", x.swings(0), 0);
            faultLeavesAll();
        });
        e.edge(3, "PORTRAITS, POINTS, BIRTHDAYS, what was found, the image are gone (STATUS stays).", () -> {
            PenSwings x = Seen.rich();
            x.set(0, 0, 10);
            x.birthday(365);
            int[] status = Seen.status(x);
            Check.is("the same once more", x.swings(11), 0);
            for (int what = 2; what <= 4; what++) {
                Check.is("count " + what, x.count(what), 0);
            }
            Check.is("no evening", Seen.evening(x).equals("evening none") ? 1 : 0, 1);
            Check.is("no acts", x.performed(0), 0);
            Check.is("no image", x.restore() ? 1 : 0, 0);
            Check.is("no fault", x.fault(), PenSwings.NONE);
            Check.is("factor of none", x.factor(0), 1);
            Check.row("STATUS", Seen.status(x), status);
        });
        e.edge(3, "IllegalArgumentException: the tape has not so many, n below 0 (nothing changes).", () -> {
            PenSwings x = Seen.rich();
            Seen.unchanged("swings that can't be", x, () -> {
                for (int n : new int[] {21, 400, 401, -1, Integer.MIN_VALUE, Integer.MAX_VALUE}) {
                    Check.illegal("swings " + n, () -> x.swings(n));
                }
            });
            Check.is("the image stays", x.restore() ? 1 : 0, 1);
            Check.is("the tape has 20", x.swings(20), 0);
            Check.illegal("it has none now", () -> x.swings(1));
        });
    }

    private static void faultLeavesAll() {
        PenSwings x = Check.told(FOUR_PENDULUMS + FOUR_CARTS + "pennies 1 2 3 4;");
        x.keep();
        x.point(1, 2, 3);
        x.birthday(4);
        x.evening(1);
        x.image();
        Check.is("a score", Check.score(x, "draw 3"), 0);
        x.set(0, 0, 5);
        String text = "pendulum kick 9 7 7 7;cart 0 9 9;pennies 9 9 9 9;";
        Seen.kept("a fault", x, () -> Check.is("at the very end", Check.swings(x, text + "x"), 1));
        Check.is("the tape is empty", x.count(5), 0);
        Check.is("its place", x.fault(), text.length());
        Check.is("refused", x.count(6), 1);
        Check.is("the image stays", x.restore() ? 1 : 0, 1);
    }

    private static void fault(Edges e) {
        e.edge(7, "The place of the latest swings()'s, score()'s FAULT; NONE without.", () -> {
            PenSwings x = new PenSwings();
            Check.is("none at first", x.fault(), PenSwings.NONE);
            Check.is("at the first byte", Check.swings(x, "x"), 1);
            Check.is("place 0", x.fault(), 0);
            Check.is("at the end of 400", Check.score(x, many(" ", 396) + "draw"), 1);
            Check.is("place 400", x.fault(), 400);
            Check.is("the latest one", Check.swings(x, "  x"), 1);
            Check.is("place 2", x.fault(), 2);
            Check.illegal("neither", () -> x.swings(1));
            Check.is("still place 2", x.fault(), 2);
            Check.is("a score without", Check.score(x, ""), 0);
            Check.is("none behind a score without", x.fault(), PenSwings.NONE);
            Check.is("a score with", Check.score(x, "x"), 1);
            Check.is("swings without", Check.swings(x, ""), 0);
            Check.is("none behind swings without", x.fault(), PenSwings.NONE);
        });
    }

    private static void count(Edges e) {
        e.edge(8, "0 PENDULUMS that were told, 1 CARTS, 2 PORTRAITS, 3 POINTS, 4 BIRTHDAYS, 5 bytes of the tape, 6 to "
            + "10 STATUS 0 to 4.", () -> {
                PenSwings x = Check.told(FOUR_PENDULUMS + FOUR_CARTS);
                Check.is("a fault", Check.swings(x, "x"), 1);
                for (int i = 0; i < 11; i++) {
                    x.set(0, 0, i < 2 ? 10 : 0);
                    x.keep();
                    x.point(i, 0, 0);
                    x.birthday(i < 1 ? 365 : i);
                }
                for (int i = 0; i < 21; i++) {
                    x.feed(0, 0, 0, 0, 0);
                }
                int[] due = {4, 4, 8, 6, 10, 400, 1, 2, 3, 5, 1};
                for (int what = 0; what < due.length; what++) {
                    Check.is("full, count " + what, x.count(what), due[what]);
                }
            });
        e.edge(8, "NoSuchElementException: another what.", () -> {
            PenSwings x = new PenSwings();
            for (int what : new int[] {-1, 11, Integer.MIN_VALUE, Integer.MAX_VALUE}) {
                Check.noSuch("count " + what, () -> x.count(what));
            }
            Check.is("the last", x.count(10), 0);
        });
    }
}
