/** The sentences of the terms on the next step. */
final class StepSentences {
    private static final String CIRCLE =
            "If the rules come to a box for which they were asked already on the way, there is no step.";
    private static final String AROUND =
            "If a box around it is closed, it is the next step for the outermost one of these.";
    private static final String READ = "If there are clues for this place of the box that have ink and are at hand:"
            + " read the one with the most ink (of several the lowest one).";
    private static final String FETCH = "Otherwise, if there are clues for it that have ink: the next step for the"
            + " outermost closed box among the box in which the prop of the lowest one lies and the boxes around it.";
    private static final String NUMBERS = "A step is told as a number: 100 + the prop to be taken; 200 + the prop to be"
            + " laid + 1000 * the box in which it is to be laid; 300 + the box to be opened; 400 + the clue to be read;"
            + " 500 + the place of the digit that the master tells.";

    private final Sentences s;

    StepSentences(Sentences s) {
        this.s = s;
    }

    void run() {
        circles();
        longWay();
        longWayUp();
        boxesAround();
        latchesAndKeys();
        places();
        cluesAtHand();
        cluesElsewhere();
        toldDigits();
        plates();
        holding();
        numbers();
    }

    private void terms(String quote, Runnable calls) {
        s.test(Sentences.TERMS, quote, calls);
    }

    private void step(String when, ResetRooms x, int want) {
        s.is("the step " + when, x.nextStep(), want);
    }

    private void circles() {
        terms(CIRCLE, () -> {
            ResetRooms x = Rooms.of("0 code 1234");
            x.addProp(1);
            x.addClue(0, 1, 0);
            Due.play(x, 1);
            step("when the clue lies in the box itself", x, Due.NONE);
            s.is("nudge()", x.nudge(), Due.NONE);
            x.giveUp();
            s.is("plan(1)", x.plan(1), Due.NONE);
        });
        for (int boxes = 2; boxes <= 11; boxes++) {
            int last = boxes;
            terms(CIRCLE, () -> {
                ResetRooms x = new ResetRooms();
                Due.type(x, "0 code 1234");
                for (int box = 1; box <= last; box++) {
                    x.addBox();
                    x.addProp(box);
                }
                for (int box = 1; box <= last; box++) {
                    x.addClue(box - 1, box % last + 1, 0);
                }
                x.setExit(1);
                Due.play(x, 1);
                step("in a circle of " + last, x, Due.NONE);
            });
        }
        terms(CIRCLE, () -> {
            ResetRooms x = Rooms.of("0 code 1234", "1 latch");
            x.addProp(2);
            x.addClue(0, 1, 0);
            Due.play(x, 1);
            step("when what opens the outer box lies in the box", x, Due.NONE);
        });
        terms(CIRCLE, () -> {
            ResetRooms x = Rooms.of("0 latch", "0 code 1234");
            x.addProp(1);
            x.addClue(0, 2, 0);
            Due.play(x, 1);
            step("that is asked for once more is no circle", x, 301);
            step("that is asked for once more is no circle", x, 301);
            s.is("nudge()", x.nudge(), 301);
        });
    }

    private void longWay() {
        terms("The next step for a box is found by these rules.", () -> {
            ResetRooms x = new ResetRooms();
            Due.box(x, "0 latch");
            Due.type(x, "0 code 1234");
            for (int box = 2; box <= 11; box++) {
                x.addProp(box - 1);
                x.addBox();
                x.addClue(box - 2, box, 0);
            }
            x.setExit(11);
            Due.play(x, 6);
            step("over eleven boxes", x, 301);
            x.open(1, 0);
            step("with the first box open", x, 400);
            for (int box = 2; box <= 11; box++) {
                s.is("read", x.read(box - 2), 1);
                step("for the box " + box, x, 501);
                s.is("open", x.open(box, 1234), box == 11 ? 2 : 1);
            }
        });
    }

    private void longWayUp() {
        terms("The next step for a box is found by these rules.", () -> {
            ResetRooms x = new ResetRooms();
            Due.type(x, "0 code 1234");
            for (int box = 1; box <= 10; box++) {
                x.addBox();
            }
            Due.box(x, "0 latch");
            for (int box = 2; box <= 11; box++) {
                x.addProp(box);
                x.addClue(box - 2, box - 1, 0);
            }
            x.setExit(1);
            Due.play(x, 6);
            step("over eleven boxes with higher and higher numbers", x, 311);
            x.open(11, 0);
            for (int box = 10; box >= 1; box--) {
                step("for the box " + box, x, 399 + box);
                x.read(box - 1);
                step("for the box " + box + " with its first digit known", x, 501);
                s.is("open", x.open(box, 1234), box == 1 ? 2 : 1);
            }
        });
    }

    private void boxesAround() {
        terms(AROUND, () -> {
            ResetRooms x = Rooms.chain(4);
            Due.play(x, 1);
            step("with all boxes around closed", x, 301);
            x.open(1, 0);
            step("with two boxes around closed", x, 302);
            x.open(2, 0);
            step("with the outer box closed", x, 303);
            x.open(3, 0);
            step("with none around closed", x, 304);
            x.giveUp();
            x.close(2);
            Due.play(x, 1);
            step("with one in the middle closed", x, 302);
            x.giveUp();
            x.close(1);
            Due.play(x, 1);
            step("with that and the outermost closed", x, 301);
        });
        terms(AROUND, () -> {
            ResetRooms x = new ResetRooms();
            x.addProp(0);
            x.addProp(0);
            Due.box(x, "0 key 1");
            Due.box(x, "1 key 0");
            x.setExit(2);
            Due.play(x, 2);
            x.take(0);
            step("though the key of the exit is held", x, 101);
            x.take(1);
            step("with both keys held", x, 301);
            x.open(1, 0);
            step("in the open box", x, 302);
        });
    }

    private void latchesAndKeys() {
        terms("For a latch: open the box.", () -> {
            ResetRooms x = Due.latchRoom();
            Due.play(x, 1);
            step("for a latch", x, 301);
        });
        terms("For a key: open the box if the key is held; otherwise it is the step to hold the key.", () -> {
            ResetRooms x = Rooms.house();
            x.setExit(2);
            Due.play(x, 1);
            x.open(1, 0);
            step("with the key in the room", x, 100);
            x.take(1);
            step("with full hands", x, 201);
            x.lay(1, 0);
            x.take(0);
            step("with the key held", x, 302);
            x.lay(0, 1);
            step("with the key beside the box", x, 100);
        });
    }

    private void places() {
        terms("For a code: the lowest place whose digit the group does not know decides.", () -> {
            ResetRooms x = Rooms.of("0 code 0417", "0 code 1234");
            x.addProp(0);
            x.addClue(0, 1, 3);
            x.addClue(0, 1, 1);
            x.addClue(0, 2, 0);
            x.setExit(1);
            Due.play(x, 1);
            step("without a clue for the place 0", x, 500);
            x.read(0);
            step("with the place 3 known", x, 500);
            x.read(2);
            step("with the place 0 of another box known", x, 500);
            x.nudge();
            step("with the place 0 known", x, 401);
            x.read(1);
            step("with the places 0, 1 and 3 known", x, 502);
        });
        terms("If the group knows all digits: open the box.", () -> {
            ResetRooms x = Rooms.inked(1, 4);
            Due.play(x, 1);
            for (int clue = 0; clue < 4; clue++) {
                step("for the place " + clue, x, 400 + clue);
                x.read(clue);
            }
            step("with all digits known", x, 301);
            x.open(1, 1);
            step("after a wrong code", x, 301);
        });
    }

    private void cluesAtHand() {
        terms(READ, () -> {
            ResetRooms x = sameClues(3);
            Due.play(x, 1);
            step("of three alike", x, 400);
            x.giveUp();
            readAndEnd(x, 0);
            step("when the lowest has less", x, 401);
            x.giveUp();
            readAndEnd(x, 1);
            step("when the two lowest have less", x, 402);
            x.giveUp();
            readAndEnd(x, 2);
            step("when all have the same again", x, 400);
            x.giveUp();
            readAndEnd(x, 1);
            step("when the one in the middle has less", x, 400);
        });
        terms(READ, () -> {
            ResetRooms x = sameClues(2);
            x.idle(420);
            Due.play(x, 1);
            step("with 2 units each", x, 400);
            x.giveUp();
            readAndEnd(x, 0);
            step("with 1 and 2 units", x, 401);
            x.read(1);
            x.giveUp();
            Due.play(x, 1);
            step("with a unit each", x, 400);
            x.giveUp();
            readAndEnd(x, 0);
            step("with none and 1 unit", x, 401);
            x.giveUp();
            readAndEnd(x, 1);
            step("without ink", x, 500);
        });
        terms(READ, () -> {
            ResetRooms x = Rooms.of("0 code 1111", "0 code 1111");
            x.addProp(0);
            x.addClue(0, 1, 0);
            x.addClue(0, 2, 1);
            x.addClue(0, 2, 0);
            Due.play(x, 1);
            step("with clues for another box and another place", x, 402);
        });
        terms(READ, () -> {
            ResetRooms x = Rooms.of("0 latch", "0 code 1111");
            x.addProp(1);
            x.addProp(0);
            x.addClue(0, 2, 0);
            x.idle(300);
            x.addClue(1, 2, 0);
            x.idle(480);
            s.is("ink of the clue at hand", x.clue(1, 3), 1);
            Due.play(x, 1);
            step("with less ink at hand than elsewhere", x, 401);
            x.take(1);
            step("with the clue held", x, 401);
        });
    }

    /** As many clues for the place 0 of the exit on a prop in the room. */
    private static ResetRooms sameClues(int clues) {
        ResetRooms x = Rooms.of("0 code 1111");
        x.addProp(0);
        for (int clue = 0; clue < clues; clue++) {
            x.addClue(0, 1, 0);
        }
        return x;
    }

    /** Reads a clue in a game of its own; then another game has begun. */
    private static void readAndEnd(ResetRooms x, int clue) {
        Due.play(x, 1);
        x.read(clue);
        x.giveUp();
        Due.play(x, 1);
    }

    private void cluesElsewhere() {
        terms(FETCH, () -> {
            ResetRooms x = Rooms.of("0 latch", "0 latch", "0 code 1111");
            x.addProp(2);
            x.addProp(1);
            x.addClue(0, 3, 0);
            x.addClue(1, 3, 0);
            Due.play(x, 1);
            step("with clues in two closed boxes", x, 302);
            x.open(1, 0);
            step("with the higher one at hand", x, 401);
            x.open(2, 0);
            step("with both at hand", x, 400);
            x.giveUp();
            x.idle(540);
            x.close(1);
            x.close(2);
            Due.play(x, 1);
            step("without ink in closed boxes", x, 500);
        });
        terms(FETCH, () -> {
            ResetRooms x = Rooms.of("0 latch", "0 latch", "0 code 1111");
            x.addProp(1);
            x.addProp(2);
            x.addClue(0, 3, 0);
            x.addClue(1, 3, 0);
            Due.play(x, 1);
            x.open(1, 0);
            x.giveUp();
            x.idle(540);
            x.close(1);
            s.is("ink of the lowest clue", x.clue(0, 3), 0);
            Due.play(x, 1);
            step("for the lowest clue that has ink", x, 302);
        });
        terms(FETCH, () -> {
            ResetRooms x = Rooms.of("0 latch", "1 latch", "2 latch", "0 code 1111");
            x.addProp(3);
            x.addClue(0, 4, 0);
            Due.play(x, 1);
            step("for a clue in three closed boxes", x, 301);
            x.open(1, 0);
            step("for a clue in two closed boxes", x, 302);
            x.open(2, 0);
            step("for a clue in a closed box", x, 303);
            x.open(3, 0);
            step("for a clue at hand", x, 400);
            x.giveUp();
            x.close(2);
            Due.play(x, 1);
            step("for a clue in an open box in a closed one", x, 302);
            x.giveUp();
            x.close(1);
            Due.play(x, 1);
            step("for the outermost closed box of two", x, 301);
        });
    }

    private void toldDigits() {
        terms("Otherwise: the master tells the digit.", () -> {
            ResetRooms x = Rooms.of("0 code 1111");
            x.setLimits(60, 9);
            Due.play(x, 1);
            for (int place = 0; place < 4; place++) {
                step("without clues", x, 500 + place);
                s.is("nudge()", x.nudge(), 500 + place);
            }
            step("with all digits told", x, 301);
        });
    }

    private void plates() {
        String quote = "For a plate: open the box if the prop lies in the outer box; otherwise, if the prop is held, lay it in"
                + " the outer box; otherwise it is the step to hold the prop.";
        terms(quote, () -> {
            ResetRooms x = Rooms.house();
            x.setExit(4);
            Due.play(x, 1);
            step("with the prop in the outer box, the room", x, 304);
            x.take(1);
            step("with the prop held and full hands", x, 201);
            x.open(1, 0);
            x.lay(1, 1);
            step("with the prop in another open box", x, 101);
            x.take(0);
            step("with full hands", x, 200);
        });
        terms(quote, () -> {
            ResetRooms x = Rooms.of("0 latch", "0 latch");
            x.addProp(2);
            Due.box(x, "1 plate 0");
            x.setExit(3);
            Due.play(x, 2);
            step("with the outer box closed", x, 301);
            x.open(1, 0);
            step("with the prop in a closed box", x, 302);
            x.open(2, 0);
            step("with the prop in another box", x, 100);
            x.take(0);
            step("with the prop held", x, 1200);
            x.lay(0, 0);
            step("with the prop in the room around the outer box", x, 100);
            x.take(0);
            x.lay(0, 1);
            step("with the prop in the outer box", x, 303);
        });
    }

    private void holding() {
        terms("The step to hold a prop: if it is at hand: take it, but if the group holds as many props as it can: lay the"
                + " lowest one of these in the room.", () -> {
            for (int players = 1; players <= 6; players++) {
                ResetRooms x = new ResetRooms();
                for (int prop = 0; prop < 9; prop++) {
                    x.addProp(0);
                }
                Due.box(x, "0 key 1");
                x.setExit(1);
                Due.play(x, players);
                for (int held = 0; held < players; held++) {
                    step("with " + held + " of " + players + " props held", x, 101);
                    x.take(8 - held);
                }
                step("with full hands", x, 200 + 9 - players);
                x.lay(9 - players, 0);
                x.take(0);
                step("with full hands, the lowest one another", x, 200);
            }
        });
        terms("If it is not at hand: the next step for the outermost closed box among the box in which it lies and the boxes"
                + " around it.", () -> {
            ResetRooms x = Rooms.of("0 latch", "1 latch");
            x.addProp(2);
            x.addProp(0);
            Due.box(x, "0 key 0");
            x.setExit(3);
            Due.play(x, 1);
            step("in two closed boxes", x, 301);
            x.open(1, 0);
            step("in a closed box", x, 302);
            x.take(1);
            step("in a closed box, with full hands", x, 302);
            x.open(2, 0);
            step("at hand, with full hands", x, 201);
            x.giveUp();
            x.close(1);
            Due.play(x, 1);
            step("in an open box in a closed one", x, 301);
        });
    }

    private void numbers() {
        terms(NUMBERS, () -> {
            ResetRooms x = Rooms.latches(10);
            for (int prop = 0; prop < 24; prop++) {
                x.addProp(0);
            }
            Due.box(x, "10 plate 23");
            x.setExit(11);
            Due.play(x, 1);
            step("the box 10 to be opened", x, 310);
            x.open(10, 0);
            step("the prop 23 to be taken", x, 123);
            x.take(23);
            step("the prop 23 to be laid in the box 10", x, 10223);
            s.is("nudge()", x.nudge(), 10223);
            x.lay(23, 10);
            step("the box 11 to be opened", x, 311);
        });
        terms(NUMBERS, () -> {
            ResetRooms x = Rooms.of("0 code 1111");
            x.addProp(0);
            for (int clue = 0; clue < 11; clue++) {
                x.addClue(0, 1, 1 + clue % 2);
            }
            x.addClue(0, 1, 0);
            Due.play(x, 1);
            step("the clue 11 to be read", x, 411);
            x.read(11);
            step("the clue 0 to be read", x, 400);
            x.read(0);
            step("the clue 1 to be read", x, 401);
            x.read(1);
            step("the digit at the place 3", x, 503);
        });
    }
}
