/** The sentences of the promises 1 to 9: what there is. */
final class BuildSentences {
    private static final String BOX_ERRORS = "-100 minus the fault of the text if it has one (which is an error); UNKNOWN for"
            + " the outer box and the prop; NOT_POSSIBLE during a game; FULL if there are 12 boxes with the room.";
    private static final String PROP_ERRORS = "UNKNOWN; NOT_POSSIBLE during a game; FULL if there are 24 props.";
    private static final String CLUE_ERRORS = "UNKNOWN; BAD_VALUE; NOT_POSSIBLE if the box has no lock with a code, or during a"
            + " game; FULL if there are 12 clues.";
    private static final String EXIT_ERRORS = "UNKNOWN; BAD_VALUE for the room; NOT_POSSIBLE during a game; NONE if it is so"
            + " already.";
    private static final String LIMIT_ERRORS = "BAD_VALUE; NOT_POSSIBLE during a game; NONE if both are so already.";

    private final Sentences s;

    BuildSentences(Sentences s) {
        this.s = s;
    }

    void run() {
        newObject();
        type();
        clearText();
        addBox();
        boxErrors();
        addProp();
        addClue();
        clueErrors();
        setExit();
        setLimits();
        addPaint();
    }

    private void newObject() {
        s.test(1, "Creates a room without further boxes, props, clues and groups, without an exit and paint.", () -> {
            ResetRooms x = new ResetRooms();
            s.is("boxes", x.count(0), 1);
            s.is("props", x.count(1), 0);
            s.is("clues", x.count(2), 0);
            s.is("groups", x.count(3), 0);
            s.is("the exit", x.count(9), Due.NONE);
            s.is("the paint", x.count(6), 0);
            s.is("box(1, 0)", x.box(1, 0), Due.UNKNOWN);
            s.is("props in the room", x.box(0, 4), 0);
            s.is("boxes in the room", x.box(0, 5), 0);
        });
        s.test(1, "Creates a room", () -> {
            ResetRooms x = Rooms.played();
            x.addPaint(4);
            x.book(1, 400);
            x.keep(0);
            ResetRooms y = new ResetRooms();
            s.is("boxes of another room", y.count(0), 1);
            s.is("the clock of another room", y.count(5), 0);
            s.is("the text of another room", y.count(11), 0);
            s.is("a snapshot of another room", y.restore(0), Due.NONE);
            s.is("boxes of the first room", x.count(0), 5);
        });
    }

    private void type() {
        s.test(2, "Appends a character to the text.", () -> {
            ResetRooms x = new ResetRooms();
            String text = "0 latch";
            for (int i = 0; i < text.length(); i++) {
                s.is("the fault of the text so far", x.addBox(), -100 - i);
                x.type(text.charAt(i));
            }
            s.is("the whole text", x.addBox(), 1);
            x.type(' ');
            s.is("the fault behind it", x.addBox(), -107);
        });
        s.test(2, "any character", () -> {
            char[] characters = {0, 1, ' ', '0', 'z', 127, 128, 255, 256, 0xD800, 0xDFFF, 0xFFFE, 0xFFFF};
            ResetRooms x = new ResetRooms();
            for (int i = 0; i < characters.length; i++) {
                s.is("type((char) " + (int) characters[i] + ")", x.type(characters[i]), i + 1);
            }
        });
        s.test(2, "Returns the length of the text then", () -> {
            ResetRooms x = new ResetRooms();
            for (int length = 1; length <= 20; length++) {
                s.is("type", x.type('0'), length);
                s.is("the length", x.count(11), length);
            }
            x.clearText();
            s.is("type into the text that was emptied", x.type('0'), 1);
        });
        s.refused(2, "FULL if it has 20 characters.", "the 21st character", () -> typed("0 latch4567890123456"),
                x -> x.type('0'), Due.FULL);
        s.test(2, "FULL if it has 20 characters.", () -> {
            ResetRooms x = typed("0 latch456789012345");
            s.is("the 20th character", x.type('x'), 20);
            s.is("the 21st character", x.type('x'), Due.FULL);
            s.is("the 21st character again", x.type('x'), Due.FULL);
            s.is("the text stays", x.count(11), 20);
        });
        s.test(2, "Appends a character", () -> {
            ResetRooms x = Rooms.game(1);
            x.clearText();
            s.is("type during a game", x.type('0'), 1);
        });
    }

    private static ResetRooms typed(String text) {
        ResetRooms x = Rooms.house();
        Due.type(x, text);
        return x;
    }

    private static ResetRooms typedInGame(String text) {
        ResetRooms x = Rooms.game(1);
        Due.type(x, text);
        return x;
    }

    private void clearText() {
        s.test(3, "Empties the text.", () -> {
            ResetRooms x = typed("0 latch");
            x.clearText();
            s.is("its length", x.count(11), 0);
            s.is("its fault", x.addBox(), -100);
            Due.type(x, "0 key 0");
            s.is("another text", x.addBox(), 5);
            s.is("its lock", x.box(5, 1), 1);
        });
        s.test(3, "Returns the length that it had.", () -> {
            ResetRooms x = new ResetRooms();
            s.is("of an empty text", x.clearText(), 0);
            for (int length = 1; length <= 20; length++) {
                for (int i = 0; i < length; i++) {
                    x.type('7');
                }
                s.is("of " + length + " characters", x.clearText(), length);
                s.is("again", x.clearText(), 0);
            }
        });
        s.test(3, "Empties the text.", () -> {
            ResetRooms x = typedInGame("12");
            s.is("during a game", x.clearText(), 2);
        });
    }

    private void addBox() {
        s.test(4, "Adds the box of the text, which stays.", () -> {
            ResetRooms x = typed("2 plate 2");
            s.is("addBox()", x.addBox(), 5);
            s.is("its outer box", x.box(5, 0), 2);
            s.is("its lock", x.box(5, 1), 3);
            s.is("its prop", x.box(5, 6), 2);
            s.is("boxes", x.count(0), 6);
            s.is("the text stays", x.count(11), 9);
            s.is("the same box once more", x.addBox(), 6);
            s.is("its prop", x.box(6, 6), 2);
            x.type('1');
            s.is("the text goes on", x.addBox(), Due.UNKNOWN);
        });
        s.test(4, "Returns its number", () -> {
            ResetRooms x = new ResetRooms();
            Due.type(x, "0 latch");
            for (int box = 1; box <= 11; box++) {
                s.is("addBox()", x.addBox(), box);
            }
        });
        s.test(4, "-100 minus the fault of the text if it has one (which is an error)", () -> {
            ResetRooms x = new ResetRooms();
            s.is("the least fault", Due.box(x, "x"), -100);
            s.is("of the empty text", Due.box(x, ""), -100);
            s.is("the greatest fault", Due.box(x, "00 code 00000"), -112);
            s.is("an error adds nothing", x.count(0), 1);
        });
        s.refused(4, "-100 minus the fault of the text if it has one (which is an error)", "a fault", () -> typed("0 latchx"),
                ResetRooms::addBox, -107);
    }

    private void boxErrors() {
        boxError("UNKNOWN for the outer box and the prop", "5 latch", Due.UNKNOWN);
        boxError("UNKNOWN for the outer box and the prop", "99 code 1234", Due.UNKNOWN);
        boxError("UNKNOWN for the outer box and the prop", "0 key 3", Due.UNKNOWN);
        boxError("UNKNOWN for the outer box and the prop", "0 key 99", Due.UNKNOWN);
        boxError("UNKNOWN for the outer box and the prop", "0 plate 3", Due.UNKNOWN);
        boxError("UNKNOWN for the outer box and the prop", "5 plate 0", Due.UNKNOWN);
        s.test(4, "UNKNOWN for the outer box and the prop", () -> {
            s.is("the last box", Due.box(Rooms.house(), "4 latch"), 5);
            s.is("the last prop as a key", Due.box(Rooms.house(), "0 key 2"), 5);
            s.is("the last prop on a plate", Due.box(Rooms.house(), "0 plate 2"), 5);
            s.is("a code that is no number of a prop", Due.box(Rooms.house(), "0 code 9999"), 5);
            s.is("a key without props", Due.box(new ResetRooms(), "0 key 0"), Due.UNKNOWN);
        });
        s.refused(4, "NOT_POSSIBLE during a game", "addBox()", () -> typedInGame("0 latch"), ResetRooms::addBox, Due.NOT_POSSIBLE);
        s.test(4, "NOT_POSSIBLE during a game", () -> {
            ResetRooms x = typedInGame("0 latch");
            x.giveUp();
            s.is("after the game", x.addBox(), 5);
        });
        s.refused(4, "FULL if there are 12 boxes with the room.", "a 13th box", () -> Rooms.latches(11), ResetRooms::addBox,
                Due.FULL);
        s.test(4, "FULL if there are 12 boxes with the room.", () -> {
            s.is("a 12th box", Rooms.latches(10).addBox(), 11);
        });
        boxError(BOX_ERRORS, "5 latch,", -107);
        boxError(BOX_ERRORS, "5 key 99x", -108);
        s.refused(4, BOX_ERRORS, "a fault during a game", () -> typedInGame("0 latches"), ResetRooms::addBox, -107);
        s.refused(4, BOX_ERRORS, "UNKNOWN during a game", () -> typedInGame("5 latch"), ResetRooms::addBox, Due.UNKNOWN);
        s.refused(4, BOX_ERRORS, "an unknown key during a game", () -> typedInGame("0 key 3"), ResetRooms::addBox, Due.UNKNOWN);
        s.refused(4, BOX_ERRORS, "a fault with 12 boxes", () -> full("0 latches", false), ResetRooms::addBox, -107);
        s.refused(4, BOX_ERRORS, "UNKNOWN with 12 boxes", () -> full("12 latch", false), ResetRooms::addBox, Due.UNKNOWN);
        s.refused(4, BOX_ERRORS, "12 boxes during a game", () -> full("0 latch", true), ResetRooms::addBox, Due.NOT_POSSIBLE);
    }

    private void boxError(String quote, String text, int want) {
        s.refused(4, quote, "addBox() of \"" + text + "\"", () -> typed(text), ResetRooms::addBox, want);
    }

    /** A room with 12 boxes and a text. */
    private static ResetRooms full(String text, boolean inGame) {
        ResetRooms x = Rooms.latches(11);
        Due.type(x, text);
        if (inGame) {
            Due.play(x, 1);
        }
        return x;
    }

    private void addProp() {
        s.test(5, "Adds a prop.", () -> {
            ResetRooms x = Rooms.house();
            x.addProp(4);
            s.is("props", x.count(1), 4);
            s.is("its home", x.prop(3, 0), 4);
            s.is("where it lies", x.prop(3, 1), 4);
            s.is("clues on it", x.prop(3, 3), 0);
            s.is("locks with it", x.prop(3, 4), 0);
        });
        s.test(5, "a box", () -> {
            ResetRooms x = Rooms.house();
            s.is("the room", x.addProp(0), 3);
            s.is("the last box", x.addProp(4), 4);
        });
        s.test(5, "Returns its number", () -> {
            ResetRooms x = new ResetRooms();
            for (int prop = 0; prop < 24; prop++) {
                s.is("addProp(0)", x.addProp(0), prop);
            }
        });
        for (int home : new int[] {-1, 5, 12, Integer.MAX_VALUE, Integer.MIN_VALUE}) {
            s.refused(5, "UNKNOWN", "addProp(" + home + ")", Rooms::house, x -> x.addProp(home), Due.UNKNOWN);
        }
        s.refused(5, "NOT_POSSIBLE during a game", "addProp(0)", () -> Rooms.game(1), x -> x.addProp(0), Due.NOT_POSSIBLE);
        s.refused(5, "FULL if there are 24 props.", "a 25th prop", () -> Rooms.inked(24, 0), x -> x.addProp(0), Due.FULL);
        s.test(5, "FULL if there are 24 props.", () -> s.is("a 24th prop", Rooms.inked(23, 0).addProp(0), 23));
        s.refused(5, PROP_ERRORS, "UNKNOWN during a game", () -> Rooms.game(1), x -> x.addProp(5), Due.UNKNOWN);
        s.refused(5, PROP_ERRORS, "UNKNOWN with 24 props", () -> Rooms.inked(24, 0), x -> x.addProp(2), Due.UNKNOWN);
        s.refused(5, PROP_ERRORS, "24 props during a game", () -> inGame(Rooms.inked(24, 0)), x -> x.addProp(0), Due.NOT_POSSIBLE);
    }

    private static ResetRooms inGame(ResetRooms x) {
        Due.play(x, 1);
        return x;
    }

    private void addClue() {
        s.test(6, "Adds a clue.", () -> {
            ResetRooms x = Rooms.house();
            x.addClue(1, 3, 2);
            s.is("clues", x.count(2), 3);
            s.is("its ink", x.clue(2, 3), 9);
        });
        s.test(6, "the prop on which it is written", () -> {
            ResetRooms x = Rooms.house();
            s.is("the prop 0 has one already", x.addClue(0, 3, 1), 2);
            s.is("the last prop", x.addClue(2, 3, 1), 3);
            s.is("the prop 0", x.clue(2, 0), 0);
            s.is("the prop 2", x.clue(3, 0), 2);
            s.is("clues on the prop 0", x.prop(0, 3), 2);
        });
        s.test(6, "a box", () -> {
            ResetRooms x = Rooms.of("0 code 1234", "0 latch", "0 code 9876");
            x.addProp(0);
            s.is("the first box", x.addClue(0, 1, 3), 0);
            s.is("the last box", x.addClue(0, 3, 3), 1);
            s.is("their boxes", x.clue(0, 1) * 10 + x.clue(1, 1), 13);
            s.is("their digits", x.clue(0, 4) * 10 + x.clue(1, 4), 46);
        });
        s.test(6, "0 to 3: the place of a digit in the code of the box", () -> {
            ResetRooms x = Rooms.house();
            int[] digits = {0, 4, 1, 7};
            for (int place = 0; place <= 3; place++) {
                s.is("the place " + place, x.addClue(1, 3, place), 2 + place);
                s.is("it is told", x.clue(2 + place, 2), place);
                s.is("its digit", x.clue(2 + place, 4), digits[place]);
            }
        });
        s.test(6, "Returns its number", () -> {
            ResetRooms x = Rooms.inked(1, 0);
            for (int clue = 0; clue < 12; clue++) {
                s.is("addClue(0, 1, 0)", x.addClue(0, 1, 0), clue);
            }
        });
    }

    private void clueErrors() {
        for (int number : new int[] {-1, 5, Integer.MAX_VALUE, Integer.MIN_VALUE}) {
            s.refused(6, "UNKNOWN", "addClue(" + number + ", 3, 0)", Rooms::house, x -> x.addClue(number, 3, 0), Due.UNKNOWN);
            s.refused(6, "UNKNOWN", "addClue(0, " + number + ", 0)", Rooms::house, x -> x.addClue(0, number, 0), Due.UNKNOWN);
        }
        s.refused(6, "UNKNOWN", "the prop behind the last one", Rooms::house, x -> x.addClue(3, 3, 0), Due.UNKNOWN);
        for (int place : new int[] {-1, 4, Integer.MAX_VALUE, Integer.MIN_VALUE}) {
            s.refused(6, "BAD_VALUE", "the place " + place, Rooms::house, x -> x.addClue(0, 3, place), Due.BAD_VALUE);
        }
        String noCode = "NOT_POSSIBLE if the box has no lock with a code, or during a game";
        for (int box : new int[] {0, 1, 2, 4}) {
            s.refused(6, noCode, "addClue(0, " + box + ", 0)", Rooms::house, x -> x.addClue(0, box, 0), Due.NOT_POSSIBLE);
        }
        s.refused(6, noCode, "during a game", () -> Rooms.game(1), x -> x.addClue(0, 3, 0), Due.NOT_POSSIBLE);
        s.refused(6, "FULL if there are 12 clues.", "a 13th clue", () -> Rooms.inked(1, 12), x -> x.addClue(0, 1, 0), Due.FULL);
        s.test(6, "FULL if there are 12 clues.", () -> s.is("a 12th", Rooms.inked(1, 11).addClue(0, 1, 0), 11));
        s.refused(6, CLUE_ERRORS, "an unknown prop and a bad place", Rooms::house, x -> x.addClue(3, 3, 4), Due.UNKNOWN);
        s.refused(6, CLUE_ERRORS, "an unknown box and a bad place", Rooms::house, x -> x.addClue(0, 5, 4), Due.UNKNOWN);
        s.refused(6, CLUE_ERRORS, "an unknown prop and no code", Rooms::house, x -> x.addClue(3, 1, 0), Due.UNKNOWN);
        s.refused(6, CLUE_ERRORS, "an unknown prop during a game", () -> Rooms.game(1), x -> x.addClue(3, 3, 0), Due.UNKNOWN);
        s.refused(6, CLUE_ERRORS, "an unknown box during a game", () -> Rooms.game(1), x -> x.addClue(0, 5, 0), Due.UNKNOWN);
        s.refused(6, CLUE_ERRORS, "an unknown box with 12 clues", () -> Rooms.inked(1, 12), x -> x.addClue(0, 2, 0), Due.UNKNOWN);
        s.refused(6, CLUE_ERRORS, "a bad place and no code", Rooms::house, x -> x.addClue(0, 0, 4), Due.BAD_VALUE);
        s.refused(6, CLUE_ERRORS, "a bad place during a game", () -> Rooms.game(1), x -> x.addClue(0, 3, -1), Due.BAD_VALUE);
        s.refused(6, CLUE_ERRORS, "a bad place with 12 clues", () -> Rooms.inked(1, 12), x -> x.addClue(0, 1, 4), Due.BAD_VALUE);
        s.refused(6, CLUE_ERRORS, "no code with 12 clues", () -> Rooms.inked(1, 12), x -> x.addClue(0, 0, 0), Due.NOT_POSSIBLE);
        s.refused(6, CLUE_ERRORS, "12 clues during a game", () -> inGame(Rooms.inked(1, 12)), x -> x.addClue(0, 1, 0),
                Due.NOT_POSSIBLE);
    }

    private void setExit() {
        s.test(7, "Makes a box the exit.", () -> {
            ResetRooms x = Rooms.house();
            x.setExit(4);
            s.is("the exit", x.count(9), 4);
            Due.play(x, 1);
            s.is("the old one", x.open(3, 417), 1);
            s.is("the new one", x.open(4, 0), 2);
        });
        s.test(7, "a box, not the room", () -> {
            ResetRooms x = Rooms.house();
            for (int box = 1; box <= 4; box++) {
                x.setExit(box);
                s.is("the exit", x.count(9), box);
            }
            ResetRooms y = Rooms.played();
            s.is("a box that is open", y.setExit(1), 3);
        });
        s.test(7, "Returns the previous exit, 0 if there was none", () -> {
            ResetRooms x = new ResetRooms();
            Due.box(x, "0 latch");
            Due.box(x, "0 latch");
            s.is("none", x.setExit(1), 0);
            s.is("the box 1", x.setExit(2), 1);
            s.is("the box 2", x.setExit(1), 2);
        });
        for (int box : new int[] {-1, 5, Integer.MAX_VALUE, Integer.MIN_VALUE}) {
            s.refused(7, "UNKNOWN", "setExit(" + box + ")", Rooms::house, x -> x.setExit(box), Due.UNKNOWN);
        }
        s.refused(7, "BAD_VALUE for the room", "setExit(0)", Rooms::house, x -> x.setExit(0), Due.BAD_VALUE);
        s.refused(7, "BAD_VALUE for the room", "setExit(0) without an exit", ResetRooms::new, x -> x.setExit(0), Due.BAD_VALUE);
        s.refused(7, "NOT_POSSIBLE during a game", "setExit(1)", () -> Rooms.game(1), x -> x.setExit(1), Due.NOT_POSSIBLE);
        s.refused(7, "NONE if it is so already.", "setExit(3)", Rooms::house, x -> x.setExit(3), Due.NONE);
        s.refused(7, EXIT_ERRORS, "setExit(5) during a game", () -> Rooms.game(1), x -> x.setExit(5), Due.UNKNOWN);
        s.refused(7, EXIT_ERRORS, "setExit(0) during a game", () -> Rooms.game(1), x -> x.setExit(0), Due.BAD_VALUE);
        s.refused(7, EXIT_ERRORS, "setExit(3) during a game", () -> Rooms.game(1), x -> x.setExit(3), Due.NOT_POSSIBLE);
    }

    private void setLimits() {
        s.test(8, "Sets the limit and the number of nudges.", () -> {
            ResetRooms x = Rooms.house();
            x.setLimits(45, 1);
            s.is("the limit", x.count(12), 45);
            s.is("the nudges", x.count(13), 1);
            Due.play(x, 1);
            s.is("minutes of a game", x.game(2), 45);
            x.nudge();
            s.is("a second nudge", x.nudge(), Due.FULL);
        });
        s.test(8, "10 to 120", () -> {
            ResetRooms x = Rooms.house();
            s.is("10", x.setLimits(10, 3), 60);
            s.is("120", x.setLimits(120, 3), 10);
            s.is("the limit", x.count(12), 120);
        });
        s.test(8, "0 to 9", () -> {
            ResetRooms x = Rooms.house();
            s.is("0", x.setLimits(60, 0), 60);
            s.is("the nudges", x.count(13), 0);
            s.is("9", x.setLimits(60, 9), 60);
            s.is("the nudges", x.count(13), 9);
        });
        s.test(8, "Returns the previous limit", () -> {
            ResetRooms x = new ResetRooms();
            s.is("the first one", x.setLimits(33, 3), 60);
            s.is("the second one", x.setLimits(33, 4), 33);
            s.is("the third one", x.setLimits(90, 4), 33);
            s.is("the fourth one", x.setLimits(91, 5), 90);
        });
        for (int minutes : new int[] {9, 121, 0, -10, Integer.MAX_VALUE, Integer.MIN_VALUE}) {
            s.refused(8, "BAD_VALUE", minutes + " minutes", Rooms::house, x -> x.setLimits(minutes, 4), Due.BAD_VALUE);
        }
        for (int nudges : new int[] {-1, 10, Integer.MAX_VALUE, Integer.MIN_VALUE}) {
            s.refused(8, "BAD_VALUE", nudges + " nudges", Rooms::house, x -> x.setLimits(50, nudges), Due.BAD_VALUE);
        }
        s.refused(8, "NOT_POSSIBLE during a game", "setLimits", () -> Rooms.game(1), x -> x.setLimits(50, 5), Due.NOT_POSSIBLE);
        s.refused(8, "NONE if both are so already.", "both", Rooms::house, x -> x.setLimits(60, 3), Due.NONE);
        s.test(8, "NONE if both are so already.", () -> {
            ResetRooms x = Rooms.house();
            s.is("the limit alone", x.setLimits(60, 4), 60);
            s.is("the nudges alone", x.setLimits(61, 4), 60);
            s.is("both", x.setLimits(61, 4), Due.NONE);
        });
        s.refused(8, LIMIT_ERRORS, "9 minutes during a game", () -> Rooms.game(1), x -> x.setLimits(9, 3), Due.BAD_VALUE);
        s.refused(8, LIMIT_ERRORS, "10 nudges during a game", () -> Rooms.game(1), x -> x.setLimits(60, 10), Due.BAD_VALUE);
        s.refused(8, LIMIT_ERRORS, "both during a game", () -> Rooms.game(1), x -> x.setLimits(60, 3), Due.NOT_POSSIBLE);
    }

    private void addPaint() {
        s.test(9, "Adds paint.", () -> {
            ResetRooms x = new ResetRooms();
            x.addPaint(7);
            s.is("the paint", x.count(6), 7);
            x.addPaint(8);
            s.is("the paint", x.count(6), 15);
        });
        s.test(9, "1 to 1000", () -> {
            s.is("1", new ResetRooms().addPaint(1), 1);
            s.is("1000", new ResetRooms().addPaint(1000), 1000);
        });
        s.test(9, "Returns the paint that there is then", () -> {
            ResetRooms x = Rooms.inked(1, 1);
            s.is("3", x.addPaint(3), 3);
            x.idle(120);
            x.writeOver(0);
            s.is("what is left and 5", x.addPaint(5), 6);
            Due.play(x, 1);
            s.is("during a game", x.addPaint(1), 7);
        });
        s.test(9, "Returns the paint that there is then", () -> {
            ResetRooms x = new ResetRooms();
            for (int call = 1; call <= 512; call++) {
                s.is("the call " + call, x.addPaint(1000), call * 1000);
            }
        });
        for (int units : new int[] {0, -1, 1001, Integer.MAX_VALUE, Integer.MIN_VALUE}) {
            s.refused(9, "BAD_VALUE", "addPaint(" + units + ")", Rooms::house, x -> x.addPaint(units), Due.BAD_VALUE);
        }
    }
}
