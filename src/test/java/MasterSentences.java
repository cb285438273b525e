/** The sentences of the promises 20 to 26: what the master does between games, and snapshots. */
final class MasterSentences {
    private static final String HOME_ERRORS = "UNKNOWN; NOT_POSSIBLE during a game; NONE if it lies at home.";
    private static final String CLOSE_ERRORS = "UNKNOWN; BAD_VALUE for the room; NOT_POSSIBLE during a game; NONE if it is"
            + " closed.";
    private static final String WRITE_ERRORS = "UNKNOWN; NOT_POSSIBLE during a game, or if there is not so much paint; NONE if"
            + " it has 9 units of ink.";
    private static final String RESET = "Brings all props home, closes all boxes but the room, and writes over all clues that"
            + " have less than 4 units of ink, in the order of their numbers, but not those for which there is not enough"
            + " paint when their turn comes.";
    private static final String BEHIND = "A minute for each prop, box and clue that is changed passes behind all this.";

    private final Sentences s;

    MasterSentences(Sentences s) {
        this.s = s;
    }

    void run() {
        idle();
        putHome();
        close();
        writeOver();
        reset();
        resetClues();
        resetMinutes();
        keep();
        restore();
        keptInAGame();
    }

    private void idle() {
        s.test(20, "Lets minutes pass.", () -> {
            ResetRooms x = Rooms.house();
            x.idle(60);
            s.is("the clock", x.count(5), 60);
            s.is("a clue at hand fades", x.clue(0, 3), 8);
        });
        s.test(20, "1 to 1000", () -> {
            s.is("1", Rooms.house().idle(1), 1);
            s.is("1000", Rooms.house().idle(1000), 1000);
        });
        s.test(20, "Returns the minute of the clock then", () -> {
            ResetRooms x = Rooms.played();
            s.is("5", x.idle(5), 15);
            s.is("100", x.idle(100), 115);
            ResetRooms y = new ResetRooms();
            for (int call = 1; call <= 512; call++) {
                s.is("the call " + call, y.idle(1000), call * 1000);
            }
        });
        for (int minutes : new int[] {0, -1, 1001, Integer.MAX_VALUE, Integer.MIN_VALUE}) {
            s.refused(20, "BAD_VALUE", "idle(" + minutes + ")", Rooms::house, x -> x.idle(minutes), Due.BAD_VALUE);
        }
        s.refused(20, "NOT_POSSIBLE during a game", "idle(1)", () -> Rooms.game(1), x -> x.idle(1), Due.NOT_POSSIBLE);
        s.refused(20, "BAD_VALUE; NOT_POSSIBLE during a game.", "idle(0) during a game", () -> Rooms.game(1), x -> x.idle(0),
                Due.BAD_VALUE);
    }

    private void putHome() {
        s.test(21, "Brings a prop home; a minute passes then.", () -> {
            ResetRooms x = Rooms.played();
            x.putHome(2);
            s.is("where it lies", x.prop(2, 1), 1);
            s.is("the clock", x.count(5), 11);
            s.is("props in the room", x.box(0, 4), 2);
        });
        s.test(21, "a minute passes then", () -> {
            ResetRooms x = Rooms.played();
            x.idle(49);
            s.is("the prop in the room ahead of the hour", x.clue(1, 3), 9);
            x.putHome(2);
            s.is("its clue fades in the open box", x.clue(1, 3), 8);
            s.is("the clock", x.count(5), 60);
        });
        s.test(21, "a prop", () -> {
            ResetRooms x = Rooms.of("0 latch");
            for (int prop = 0; prop < 24; prop++) {
                x.addProp(1);
            }
            Due.box(x, "0 latch");
            x.setExit(2);
            Due.play(x, 2);
            x.open(1, 0);
            x.take(0);
            x.take(23);
            x.giveUp();
            s.is("the first prop", x.putHome(0), 0);
            s.is("the last prop", x.putHome(23), 0);
            s.is("props in their home", x.box(1, 4), 24);
        });
        s.test(21, "Returns the box in which it lay", () -> {
            ResetRooms x = Rooms.house();
            Due.play(x, 1);
            x.open(1, 0);
            x.take(2);
            x.open(4, 0);
            x.lay(2, 4);
            x.take(0);
            x.lay(0, 1);
            x.take(1);
            x.giveUp();
            s.is("the box 4", x.putHome(2), 4);
            s.is("the box 1", x.putHome(0), 1);
            s.is("the room, its home", x.putHome(1), Due.NONE);
            s.is("the room", Rooms.played().putHome(2), 0);
        });
        for (int prop : new int[] {3, -1, Integer.MAX_VALUE, Integer.MIN_VALUE}) {
            s.refused(21, "UNKNOWN", "putHome(" + prop + ")", Rooms::played, x -> x.putHome(prop), Due.UNKNOWN);
        }
        s.refused(21, "NOT_POSSIBLE during a game", "a prop that is held", MasterSentences::heldFar, x -> x.putHome(2),
                Due.NOT_POSSIBLE);
        s.refused(21, "NONE if it lies at home.", "putHome(0)", Rooms::played, x -> x.putHome(0), Due.NONE);
        s.refused(21, HOME_ERRORS, "unknown during a game", () -> Rooms.game(1), x -> x.putHome(3), Due.UNKNOWN);
        s.refused(21, HOME_ERRORS, "at home during a game", () -> Rooms.game(1), x -> x.putHome(0), Due.NOT_POSSIBLE);
    }

    /** A game in which the prop 2, whose home is the box 1, is held. */
    private static ResetRooms heldFar() {
        ResetRooms x = Rooms.game(1);
        x.open(1, 0);
        x.take(2);
        return x;
    }

    private void close() {
        s.test(22, "Closes a box; a minute passes then.", () -> {
            ResetRooms x = Rooms.played();
            x.close(1);
            s.is("it is closed", x.box(1, 2), 0);
            s.is("the clock", x.count(5), 11);
            Due.play(x, 1);
            s.is("it can be opened again", x.open(1, 0), 1);
        });
        s.test(22, "a box, not the room", () -> {
            ResetRooms x = threeOpen();
            s.is("the first box", x.close(1), 2);
            s.is("the last box", x.close(3), 1);
        });
        s.test(22, "Returns how many boxes, but the room, are open then", () -> {
            ResetRooms x = threeOpen();
            s.is("two", x.close(2), 2);
            s.is("one", x.close(3), 1);
            s.is("none", x.close(1), 0);
        });
        for (int box : new int[] {4, -1, Integer.MAX_VALUE, Integer.MIN_VALUE}) {
            s.refused(22, "UNKNOWN", "close(" + box + ")", MasterSentences::threeOpen, x -> x.close(box), Due.UNKNOWN);
        }
        s.refused(22, "BAD_VALUE for the room", "close(0)", MasterSentences::threeOpen, x -> x.close(0), Due.BAD_VALUE);
        s.refused(22, "NOT_POSSIBLE during a game", "close(1)", MasterSentences::openInGame, x -> x.close(1), Due.NOT_POSSIBLE);
        s.refused(22, "NONE if it is closed.", "close(4)", Rooms::played, x -> x.close(4), Due.NONE);
        s.refused(22, "NONE if it is closed.", "a closed box in a closed one", Rooms::house, x -> x.close(2), Due.NONE);
        s.refused(22, CLOSE_ERRORS, "unknown during a game", () -> Rooms.game(1), x -> x.close(5), Due.UNKNOWN);
        s.refused(22, CLOSE_ERRORS, "the room during a game", () -> Rooms.game(1), x -> x.close(0), Due.BAD_VALUE);
        s.refused(22, CLOSE_ERRORS, "closed during a game", () -> Rooms.game(1), x -> x.close(1), Due.NOT_POSSIBLE);
    }

    private static ResetRooms openInGame() {
        ResetRooms x = Rooms.game(1);
        x.open(1, 0);
        return x;
    }

    /** Three open boxes, the second in the first; the third was the exit. */
    private static ResetRooms threeOpen() {
        ResetRooms x = Rooms.of("0 latch", "1 latch", "0 latch");
        Due.play(x, 1);
        x.open(1, 0);
        x.open(2, 0);
        x.open(3, 0);
        return x;
    }

    /** A clue of the first prop has so much ink, at a full hour; there is so much paint. */
    private static ResetRooms faded(int ink, int paint) {
        ResetRooms x = Rooms.inked(1, 1);
        if (ink < 9) {
            x.idle(60 * (9 - ink));
        }
        if (paint > 0) {
            x.addPaint(paint);
        }
        return x;
    }

    private void writeOver() {
        s.test(23, "Writes over a clue; a minute passes then.", () -> {
            ResetRooms x = faded(2, 9);
            x.writeOver(0);
            s.is("its ink", x.clue(0, 3), 9);
            s.is("the clock", x.count(5), 421);
        });
        s.test(23, "a minute passes then", () -> {
            ResetRooms x = faded(5, 9);
            x.idle(59);
            s.is("paint for the ink ahead of the hour", x.writeOver(0), 4);
            s.is("a unit goes by the hour behind it", x.clue(0, 3), 8);
        });
        s.test(23, "a clue", () -> {
            ResetRooms x = Rooms.inked(1, 12);
            x.idle(60);
            x.addPaint(5);
            s.is("the first one", x.writeOver(0), 1);
            s.is("the last one", x.writeOver(11), 1);
            s.is("their ink", x.clue(0, 3) * 100 + x.clue(1, 3) * 10 + x.clue(11, 3), 989);
        });
        s.test(23, "Returns how much paint is used", () -> {
            for (int ink = 0; ink < 9; ink++) {
                ResetRooms x = faded(ink, 100);
                s.is("for " + ink + " units", x.writeOver(0), 9 - ink);
                s.is("the paint that is left", x.count(6), 91 + ink);
            }
        });
        for (int clue : new int[] {2, -1, Integer.MAX_VALUE, Integer.MIN_VALUE}) {
            s.refused(23, "UNKNOWN", "writeOver(" + clue + ")", Rooms::house, x -> x.writeOver(clue), Due.UNKNOWN);
        }
        String reasons = "NOT_POSSIBLE during a game, or if there is not so much paint";
        s.refused(23, reasons, "during a game", () -> {
            ResetRooms x = faded(5, 9);
            Due.play(x, 1);
            return x;
        }, x -> x.writeOver(0), Due.NOT_POSSIBLE);
        for (int ink = 0; ink < 9; ink++) {
            int units = ink;
            s.refused(23, reasons, "a unit of paint too little", () -> faded(units, 8 - units), x -> x.writeOver(0),
                    Due.NOT_POSSIBLE);
            s.test(23, reasons, () -> {
                ResetRooms x = faded(units, 9 - units);
                s.is("just enough paint", x.writeOver(0), 9 - units);
                s.is("the paint that is left", x.count(6), 0);
            });
        }
        s.refused(23, "NONE if it has 9 units of ink.", "with paint", () -> faded(9, 9), x -> x.writeOver(0), Due.NONE);
        s.refused(23, "NONE if it has 9 units of ink.", "without paint", () -> faded(9, 0), x -> x.writeOver(0), Due.NONE);
        s.refused(23, WRITE_ERRORS, "unknown during a game", () -> Rooms.game(1), x -> x.writeOver(2), Due.UNKNOWN);
        s.refused(23, WRITE_ERRORS, "9 units during a game", () -> Rooms.game(1), x -> x.writeOver(0), Due.NOT_POSSIBLE);
    }

    private void reset() {
        s.test(24, RESET, () -> {
            ResetRooms x = threeOpen();
            x.addProp(2);
            x.addProp(0);
            x.close(3);
            Due.play(x, 2);
            x.take(0);
            x.take(1);
            x.lay(1, 1);
            x.giveUp();
            s.is("two props and two boxes", x.reset(), 4);
            s.is("the prop 0", x.prop(0, 1), 2);
            s.is("the prop 1", x.prop(1, 1), 0);
            s.is("the boxes", x.box(1, 2) + x.box(2, 2) + x.box(3, 2), 0);
            s.is("the room stays open", x.box(0, 2), 1);
        });
        s.test(24, "Brings all props home", () -> {
            ResetRooms x = Rooms.latches(2);
            for (int prop = 0; prop < 24; prop++) {
                x.addProp(1);
            }
            for (int game = 0; game < 4; game++) {
                Due.play(x, 6);
                if (game == 0) {
                    x.open(1, 0);
                }
                for (int prop = 6 * game; prop < 6 * game + 6; prop++) {
                    x.take(prop);
                }
                x.giveUp();
            }
            s.is("24 props and a box", x.reset(), 25);
            s.is("props in their home", x.box(1, 4), 24);
            s.is("where the first lies", x.prop(0, 1), 1);
            s.is("where the last lies", x.prop(23, 1), 1);
        });
        s.test(24, "closes all boxes but the room", () -> {
            ResetRooms x = Rooms.latches(11);
            Due.play(x, 6);
            for (int box = 1; box <= 11; box++) {
                x.open(box, 0);
            }
            s.is("eleven boxes", x.reset(), 11);
            for (int box = 0; box <= 11; box++) {
                s.is("the box " + box, x.box(box, 2), box == 0 ? 1 : 0);
            }
        });
        s.test(24, "Returns how many minutes it takes", () -> {
            ResetRooms x = Rooms.played();
            s.is("a box and a prop", x.reset(), 2);
            s.is("the clock", x.count(5), 12);
            s.is("again", x.reset(), Due.NONE);
        });
        s.refused(24, "NOT_POSSIBLE during a game", "reset()", MasterSentences::heldFar, ResetRooms::reset, Due.NOT_POSSIBLE);
        s.refused(24, "NONE if there is nothing to do.", "a room as at first", Rooms::house, ResetRooms::reset, Due.NONE);
        s.refused(24, "NONE if there is nothing to do.", "4 units of ink", () -> faded(4, 9), ResetRooms::reset, Due.NONE);
        s.refused(24, "NONE if there is nothing to do.", "no paint for it", () -> faded(3, 5), ResetRooms::reset, Due.NONE);
        s.refused(24, "NOT_POSSIBLE during a game; NONE if there is nothing to do.", "nothing to do, during a game",
                () -> Rooms.game(1), ResetRooms::reset, Due.NOT_POSSIBLE);
    }

    /** The clues 0 to 3 of a prop have 1, 2, 3 and 4 units of ink, the clue 4 has none; there is so much paint. */
    private static ResetRooms fiveClues(int paint) {
        ResetRooms x = Rooms.inked(2, 0);
        x.addClue(0, 1, 0);
        for (int clue = 1; clue < 4; clue++) {
            x.idle(60);
            x.addClue(0, 1, clue);
        }
        x.addClue(1, 1, 0);
        x.idle(180);
        Due.play(x, 1);
        for (int i = 0; i < 6; i++) {
            x.read(4);
        }
        x.giveUp();
        x.idle(360 + 120 - x.count(5));
        if (paint > 0) {
            x.addPaint(paint);
        }
        return x;
    }

    private static int inks(ResetRooms x) {
        int inks = 0;
        for (int clue = 0; clue < 5; clue++) {
            inks = inks * 10 + x.clue(clue, 3);
        }
        return inks;
    }

    private void resetClues() {
        s.test(24, "writes over all clues that have less than 4 units of ink", () -> {
            for (int ink = 0; ink <= 9; ink++) {
                ResetRooms x = faded(ink, 9);
                s.is("reset() with " + ink + " units", x.reset(), ink < 4 ? 1 : Due.NONE);
                s.is("the ink", x.clue(0, 3), ink < 4 ? 9 : ink);
                s.is("the paint", x.count(6), ink < 4 ? ink : 9);
            }
        });
        int[][] rows = {{0, 12340, 0, 0}, {5, 12340, 0, 5}, {6, 12940, 1, 0}, {7, 19340, 1, 0}, {8, 92340, 1, 0},
            {9, 92340, 1, 1}, {13, 92340, 1, 5}, {14, 92940, 2, 0}, {15, 99340, 2, 0}, {20, 99340, 2, 5}, {21, 99940, 3, 0},
            {29, 99940, 3, 8}, {30, 99949, 4, 0}, {31, 99949, 4, 1}, {1000, 99949, 4, 970}};
        for (int[] row : rows) {
            s.test(24, "in the order of their numbers, but not those for which there is not enough paint when their turn comes.",
                    () -> {
                ResetRooms x = fiveClues(row[0]);
                s.is("the ink ahead of it", inks(x), 12340);
                s.is("reset() with paint for " + row[0], x.reset(), row[2] == 0 ? Due.NONE : row[2]);
                s.is("the ink", inks(x), row[1]);
                s.is("the paint", x.count(6), row[3]);
            });
        }
    }

    private void resetMinutes() {
        s.test(24, BEHIND, () -> {
            ResetRooms x = Rooms.played();
            x.idle(410);
            x.addPaint(50);
            s.is("ink", x.clue(0, 3) * 10 + x.clue(1, 3), 22);
            s.is("a box, a prop and two clues", x.reset(), 4);
            s.is("the clock", x.count(5), 424);
            x.idle(55);
            s.is("ink ahead of the hour", x.clue(0, 3) * 10 + x.clue(1, 3), 99);
        });
        s.test(24, BEHIND, () -> {
            ResetRooms x = Rooms.played();
            x.idle(407);
            x.addPaint(50);
            s.is("ink", x.clue(0, 3) * 10 + x.clue(1, 3), 33);
            s.is("a box, a prop and two clues", x.reset(), 4);
            s.is("the clock", x.count(5), 421);
            s.is("the clue at hand fades at 420, the one at home in the closed box does not",
                    x.clue(0, 3) * 10 + x.clue(1, 3), 89);
        });
        s.test(24, BEHIND, () -> {
            ResetRooms x = fiveClues(6);
            x.idle(59);
            s.is("the ink ahead of it", inks(x), 12340);
            s.is("one clue of four", x.reset(), 1);
            s.is("a minute for what is changed alone", x.count(5), 540);
            s.is("all clues fade behind it", inks(x), 1830);
        });
    }

    private void keep() {
        s.test(25, "Takes a snapshot of the state, in place of what is there.", () -> {
            ResetRooms x = Rooms.house();
            x.keep(0);
            x.addProp(0);
            x.idle(9);
            String kept = Told.state(x);
            x.keep(0);
            x.addProp(0);
            x.idle(9);
            x.restore(0);
            s.is("the later state", Told.state(x), kept);
        });
        s.test(25, "Takes a snapshot of the state", () -> {
            ResetRooms x = Rooms.played();
            String told = Told.state(x);
            x.keep(0);
            s.is("the state stays", Told.state(x), told);
        });
        s.test(25, "0 or 1", () -> {
            ResetRooms x = Rooms.house();
            x.keep(0);
            x.idle(4);
            x.keep(1);
            x.idle(4);
            s.is("restore(0)", x.restore(0), 0);
            s.is("restore(1)", x.restore(1), 4);
        });
        s.test(25, "Returns the minute of the clock", () -> {
            s.is("at first", new ResetRooms().keep(1), 0);
            ResetRooms x = Rooms.played();
            s.is("later", x.keep(0), 10);
            x.idle(1);
            s.is("a minute later", x.keep(0), 11);
            Due.play(x, 1);
            x.rest(9);
            s.is("during a game", x.keep(1), 20);
        });
        for (int slot : new int[] {2, -1, 32, Integer.MAX_VALUE, Integer.MIN_VALUE}) {
            s.refused(25, "UNKNOWN.", "keep(" + slot + ")", Rooms::played, x -> x.keep(slot), Due.UNKNOWN);
        }
    }

    private void restore() {
        s.test(26, "Restores the state of a snapshot, which stays.", () -> {
            ResetRooms x = Rooms.played();
            String kept = Told.state(x);
            x.keep(1);
            for (int i = 0; i < 3; i++) {
                x.reset();
                x.addProp(0);
                s.is("restore(1)", x.restore(1), 10);
            }
            s.is("the state", Told.state(x), kept);
        });
        s.test(26, "which stays", () -> {
            ResetRooms x = Rooms.house();
            x.keep(0);
            x.restore(0);
            Due.play(x, 1);
            x.open(1, 0);
            x.take(2);
            x.read(0);
            x.nudge();
            x.giveUp();
            x.addProp(4);
            x.book(1, 99);
            s.is("what follows does not change it", x.restore(0), 0);
            s.is("boxes, props", x.differences(0) * 10 + x.differences(1), 0);
            s.is("ink", x.clue(0, 3), 9);
            s.is("props, groups, results, log", x.count(1) * 1000 + x.count(3) * 100 + x.count(7) * 10 + x.count(10), 3000);
        });
        s.test(26, "0 or 1", () -> {
            ResetRooms x = new ResetRooms();
            x.keep(1);
            s.is("restore(1)", x.restore(1), 0);
            s.is("restore(0)", x.restore(0), Due.NONE);
        });
        s.test(26, "Returns the minute of the clock then", () -> {
            ResetRooms x = Rooms.played();
            x.keep(0);
            x.idle(500);
            s.is("the clock goes back", x.restore(0), 10);
            s.is("the clock", x.count(5), 10);
        });
        for (int slot : new int[] {2, -1, 32, Integer.MAX_VALUE, Integer.MIN_VALUE}) {
            s.refused(26, "UNKNOWN", "restore(" + slot + ")", MasterSentences::kept, x -> x.restore(slot), Due.UNKNOWN);
            s.refused(26, "UNKNOWN; NONE if there is no such snapshot.", "restore(" + slot + ") without snapshots", Rooms::house,
                    x -> x.restore(slot), Due.UNKNOWN);
        }
        s.refused(26, "NONE if there is no such snapshot.", "restore(0)", Rooms::played, x -> x.restore(0), Due.NONE);
        s.refused(26, "NONE if there is no such snapshot.", "restore(1)", Rooms::played, x -> x.restore(1), Due.NONE);
        s.refused(26, "NONE if there is no such snapshot.", "the other slot", () -> {
            ResetRooms x = Rooms.house();
            x.keep(1);
            return x;
        }, x -> x.restore(0), Due.NONE);
    }

    /** Snapshots of the minutes 10 and 11 in the slots 0 and 1. */
    private static ResetRooms kept() {
        ResetRooms x = Rooms.played();
        x.keep(0);
        x.idle(1);
        x.keep(1);
        return x;
    }

    private void keptInAGame() {
        s.test(26, "Restores the state of a snapshot", () -> {
            ResetRooms x = heldFar();
            x.nudge();
            x.keep(0);
            x.giveUp();
            x.reset();
            s.is("into a game", x.restore(0), 9);
            s.is("a game", x.count(14), 1);
            s.is("what is held", x.game(4), 4);
            s.is("what is known", x.box(3, 7), 1);
            s.is("no result", x.count(7), 0);
            s.is("the game goes on", x.rest(1), 50);
            ResetRooms y = Rooms.house();
            y.keep(0);
            Due.play(y, 1);
            s.is("out of a game", y.restore(0), 0);
            s.is("no game", y.count(14), 0);
            s.is("no group", y.count(3), 0);
            s.is("it can be built again", y.addProp(0), 3);
        });
    }
}
