/** The sentences of the terms on boxes, locks, props and clues. */
final class ThingSentences {
    private final Sentences s;

    ThingSentences(Sentences s) {
        this.s = s;
    }

    void run() {
        boxes();
        around();
        locks();
        props();
        clues();
        ink();
    }

    private void terms(String quote, Runnable calls) {
        s.test(Sentences.TERMS, quote, calls);
    }

    private void boxes() {
        terms("The box 0 is the room itself; it has no lock and is always open.", () -> {
            ResetRooms x = Due.latchRoom();
            s.is("the lock of the room", x.box(0, 1), Due.NONE);
            s.is("the room at first", x.box(0, 2), 1);
            Due.play(x, 1);
            s.is("open(0, 0)", x.open(0, 0), Due.NOT_POSSIBLE);
            x.open(1, 0);
            s.is("close(0)", x.close(0), Due.BAD_VALUE);
            x.reset();
            s.is("the room after a reset", x.box(0, 2), 1);
        });
        terms("Up to 11 further boxes are numbered from 1 in the order in which they were added", () -> {
            ResetRooms x = new ResetRooms();
            Due.type(x, "0 latch");
            for (int box = 1; box <= 11; box++) {
                s.is("addBox()", x.addBox(), box);
            }
            s.is("a twelfth further box", x.addBox(), Due.FULL);
            s.is("boxes with the room", x.count(0), 12);
            s.is("box(11, 0)", x.box(11, 0), 0);
            s.is("box(12, 0)", x.box(12, 0), Due.UNKNOWN);
        });
        terms("each stands in a box with a lower number, its outer box, and stays there.", () -> {
            ResetRooms x = new ResetRooms();
            s.is("a first box that stands in itself", Due.box(x, "1 latch"), Due.UNKNOWN);
            Due.box(x, "0 latch");
            s.is("a box that stands in itself", Due.box(x, "2 latch"), Due.UNKNOWN);
            s.is("a box in the latest one", Due.box(x, "1 latch"), 2);
            s.is("a box in the room", Due.box(x, "0 latch"), 3);
            x.setExit(3);
            outerBoxes(x, "at first");
            Due.play(x, 1);
            x.open(1, 0);
            x.open(2, 0);
            outerBoxes(x, "in a game");
            x.giveUp();
            x.reset();
            outerBoxes(x, "after a reset");
        });
        terms("A box that is added is closed.", () -> {
            ResetRooms x = Rooms.house();
            for (int box = 1; box <= 4; box++) {
                s.is("box(" + box + ", 2)", x.box(box, 2), 0);
            }
            Due.play(x, 1);
            x.open(1, 0);
            x.giveUp();
            Due.box(x, "1 latch");
            s.is("a box that is added in an open one", x.box(5, 2), 0);
        });
    }

    private void outerBoxes(ResetRooms x, String when) {
        s.is("the outer boxes " + when, x.box(1, 0) * 100 + x.box(2, 0) * 10 + x.box(3, 0), 10);
        s.is("the boxes that stand in others " + when, x.box(0, 5) * 100 + x.box(1, 5) * 10 + x.box(2, 5), 210);
    }

    private void around() {
        terms("The boxes around a box are its outer box, the outer box of this one, and so on up to the room.", () -> {
            ResetRooms x = Rooms.chain(11);
            Due.play(x, 6);
            for (int open = 1; open <= 10; open++) {
                s.is("the innermost box with " + (open - 1) + " open ones around it", x.box(11, 3), 0);
                s.is("open(" + open + ")", x.open(open, 0), 1);
            }
            s.is("the innermost box with all open ones around it", x.box(11, 3), 1);
        });
        for (int closed = 1; closed <= 10; closed++) {
            int box = closed;
            terms("The boxes around a box are its outer box, the outer box of this one, and so on up to the room.", () -> {
                ResetRooms x = openChain();
                x.close(box);
                for (int inner = 1; inner <= 11; inner++) {
                    s.is("the box " + inner + " is at hand when " + box + " alone is closed", x.box(inner, 3),
                            inner <= box ? 1 : 0);
                }
            });
        }
        terms("A box is at hand if all boxes around it are open (it need not be open itself).", () -> {
            ResetRooms x = Rooms.of("0 latch", "1 latch", "2 latch");
            s.is("a closed box in the room", x.box(1, 3), 1);
            s.is("a closed box in a closed one", x.box(2, 3), 0);
            Due.play(x, 1);
            x.open(1, 0);
            s.is("a closed box in an open one", x.box(2, 3), 1);
            s.is("a box behind the closed one", x.box(3, 3), 0);
            x.open(2, 0);
            s.is("an open box in an open one", x.box(2, 3), 1);
            x.giveUp();
            x.close(1);
            s.is("an open box in a closed one", x.box(2, 3), 0);
            s.is("a box in an open box in a closed one", x.box(3, 3), 0);
            s.is("the closed box itself", x.box(1, 3), 1);
            s.is("the room", x.box(0, 3), 1);
        });
    }

    /** A chain of 11 boxes that are open but for the innermost one, between games. */
    private static ResetRooms openChain() {
        ResetRooms x = Rooms.chain(11);
        Due.play(x, 6);
        for (int box = 1; box <= 10; box++) {
            x.open(box, 0);
        }
        x.giveUp();
        return x;
    }

    private void locks() {
        terms("A latch opens by hand.", () -> {
            ResetRooms x = Rooms.game(1);
            s.is("with empty hands", x.open(1, 0), 1);
            s.is("it is open", x.box(1, 2), 1);
        });
        terms("A lock with a key opens if the group holds its key, which is a prop.", () -> {
            ResetRooms x = Rooms.game(2);
            x.open(1, 0);
            s.is("the key lies in the room", x.open(2, 0), Due.NOT_POSSIBLE);
            x.take(1);
            s.is("another prop is held", x.open(2, 0), Due.NOT_POSSIBLE);
            x.take(0);
            x.lay(0, 1);
            s.is("the key lies beside the box", x.open(2, 0), Due.NOT_POSSIBLE);
            x.take(0);
            s.is("the key is held", x.open(2, 0), 1);
            s.is("it is held still", x.prop(0, 1), Due.NONE);
        });
        terms("A lock with a code opens by its code of four digits, the places 0 to 3 from the left.", () -> {
            ResetRooms x = Rooms.game(6);
            s.is("the code from the right", x.open(3, 7140), 0);
            s.is("the code without its last digit", x.open(3, 41), 0);
            s.is("one too high", x.open(3, 418), 0);
            s.is("the code", x.open(3, 417), 2);
        });
        terms("its code of four digits, the places 0 to 3 from the left.", () -> {
            String[] codes = {"5678", "9876", "1000", "0100", "0010", "0001", "0999", "1999", "9999", "9099", "9909", "0000",
                "2345", "4321", "8889"};
            for (String code : codes) {
                ResetRooms x = Rooms.of("0 code " + code);
                x.addProp(0);
                for (int place = 0; place < 4; place++) {
                    x.addClue(0, 1, place);
                    s.is("the place " + place + " of " + code, x.clue(place, 4), code.charAt(place) - '0');
                }
                Due.play(x, 1);
                s.is("open(1, " + code + ")", x.open(1, Integer.parseInt(code)), 2);
            }
        });
        terms("A lock with a plate opens if its prop lies in its outer box.", () -> {
            ResetRooms x = new ResetRooms();
            x.addProp(0);
            x.addProp(0);
            Due.box(x, "0 latch");
            Due.box(x, "1 plate 0");
            x.setExit(2);
            Due.play(x, 2);
            x.open(1, 0);
            s.is("the prop lies in the room around the outer box", x.open(2, 0), Due.NOT_POSSIBLE);
            x.take(0);
            s.is("the prop is held", x.open(2, 0), Due.NOT_POSSIBLE);
            x.take(1);
            x.lay(1, 1);
            s.is("another prop lies in the outer box", x.open(2, 0), Due.NOT_POSSIBLE);
            x.lay(0, 1);
            s.is("the prop lies in the outer box", x.open(2, 0), 2);
        });
    }

    private void props() {
        terms("There are up to 24 props, numbered from 0.", () -> {
            ResetRooms x = new ResetRooms();
            for (int prop = 0; prop < 24; prop++) {
                s.is("addProp(0)", x.addProp(0), prop);
            }
            s.is("a 25th prop", x.addProp(0), Due.FULL);
            s.is("prop(23, 0)", x.prop(23, 0), 0);
            s.is("prop(24, 0)", x.prop(24, 0), Due.UNKNOWN);
        });
        terms("Each has a home, a box, in which it lies when it is added.", () -> {
            ResetRooms x = Rooms.of("0 latch", "1 latch");
            for (int home = 0; home <= 2; home++) {
                x.addProp(home);
                s.is("the home", x.prop(home, 0), home);
                s.is("the box in which it lies", x.prop(home, 1), home);
                s.is("the props in its home", x.box(home, 4), 1);
            }
        });
        terms("A prop lies in a box or is held by the group.", () -> {
            ResetRooms x = Rooms.game(2);
            s.is("it lies in the room, is not held", x.prop(0, 1) * 100 + x.game(4), 0);
            x.take(0);
            s.is("it lies nowhere", x.prop(0, 1), Due.NONE);
            s.is("it is held", x.game(4), 1);
            s.is("the props in all boxes", x.box(0, 4) + x.box(1, 4) + x.box(2, 4) + x.box(3, 4) + x.box(4, 4), 2);
            x.open(1, 0);
            x.lay(0, 1);
            s.is("it lies in the box 1", x.prop(0, 1), 1);
            s.is("it is not held", x.game(4), 0);
        });
        terms("It is at hand if it is held, or if the box in which it lies and all boxes around this one are open.", () -> {
            ResetRooms x = Rooms.of("0 latch", "1 latch", "0 latch");
            x.addProp(0);
            x.addProp(1);
            x.addProp(2);
            Due.play(x, 1);
            s.is("in the room", x.prop(0, 2), 1);
            s.is("in a closed box", x.prop(1, 2), 0);
            s.is("in a closed box in a closed one", x.prop(2, 2), 0);
            x.open(1, 0);
            s.is("in an open box", x.prop(1, 2), 1);
            s.is("in a closed box in an open one", x.prop(2, 2), 0);
            x.open(2, 0);
            s.is("in an open box in an open one", x.prop(2, 2), 1);
            x.take(2);
            s.is("held", x.prop(2, 2), 1);
            x.lay(2, 2);
            x.giveUp();
            x.close(1);
            s.is("in an open box in a closed one", x.prop(2, 2), 0);
            s.is("in the closed one", x.prop(1, 2), 0);
        });
    }

    private void clues() {
        terms("There are up to 12 clues, numbered from 0.", () -> {
            ResetRooms x = Rooms.inked(1, 0);
            for (int clue = 0; clue < 12; clue++) {
                s.is("addClue(0, 1, 2)", x.addClue(0, 1, 2), clue);
            }
            s.is("a 13th clue", x.addClue(0, 1, 2), Due.FULL);
            s.is("clue(11, 2)", x.clue(11, 2), 2);
            s.is("clue(12, 2)", x.clue(12, 2), Due.UNKNOWN);
        });
        terms("A clue is written on a prop, and tells the digit at one place of the code of one box.", () -> {
            ResetRooms x = Rooms.of("0 code 0417", "0 code 5293");
            x.addProp(0);
            x.addProp(0);
            x.addClue(1, 1, 2);
            x.addClue(1, 2, 2);
            x.addClue(0, 2, 0);
            int[][] wanted = {{1, 1, 2, 1}, {1, 2, 2, 9}, {0, 2, 0, 5}};
            Due.play(x, 1);
            for (int clue = 0; clue < 3; clue++) {
                s.is("its prop", x.clue(clue, 0), wanted[clue][0]);
                s.is("its box", x.clue(clue, 1), wanted[clue][1]);
                s.is("its place", x.clue(clue, 2), wanted[clue][2]);
                s.is("its digit", x.clue(clue, 4), wanted[clue][3]);
                s.is("the digit that is read", x.read(clue), wanted[clue][3]);
            }
            s.is("what is known of the box 1", x.box(1, 7), 4);
            s.is("what is known of the box 2", x.box(2, 7), 5);
        });
        terms("It is at hand if its prop is.", () -> {
            ResetRooms x = Rooms.game(1);
            s.is("on a prop in the room", x.clue(0, 5), 1);
            s.is("on a prop in a closed box", x.clue(1, 5), 0);
            x.open(1, 0);
            s.is("on a prop in an open box", x.clue(1, 5), 1);
            x.take(2);
            s.is("on a prop that is held", x.clue(1, 5), 1);
        });
    }

    private void ink() {
        terms("It has from 0 to 9 units of ink, 9 when it is added.", () -> {
            ResetRooms x = Rooms.inked(1, 1);
            s.is("when it is added", x.clue(0, 3), 9);
            x.idle(479);
            s.is("at 479", x.clue(0, 3), 2);
            x.idle(1);
            Due.play(x, 1);
            x.rest(40);
            s.is("the last unit can be read", x.read(0), 5);
            s.is("0 units", x.clue(0, 3), 0);
            s.is("without ink", x.read(0), Due.NONE);
            x.giveUp();
            x.idle(100);
            s.is("not below 0", x.clue(0, 3), 0);
            x.addPaint(1000);
            x.writeOver(0);
            s.is("not above 9", x.clue(0, 3), 9);
        });
        terms("9 when it is added", () -> {
            ResetRooms x = Rooms.inked(1, 1);
            x.idle(130);
            x.addClue(0, 1, 0);
            s.is("a clue that is added late", x.clue(1, 3), 9);
            s.is("the one beside it", x.clue(0, 3), 7);
        });
    }
}
