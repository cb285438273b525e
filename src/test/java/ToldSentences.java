import java.util.function.ToIntFunction;

/** The sentences of the promises 27 to 37: what is told. */
final class ToldSentences {
    private static final String[] COUNTS = {"0 for the number of boxes with the room", "1 for props", "2 for clues",
        "3 for groups that wait", "4 for those of them that are behind (they want to start earlier than the clock tells)",
        "5 for the minute of the clock", "6 for the paint", "7 for results", "8 for games that were won",
        "9 for the exit (NONE if there is none)", "10 for the length of the log", "11 for the length of the text",
        "12 for the limit", "13 for the number of nudges", "14 for whether there is a game (1, otherwise 0)"};

    private final Sentences s;

    ToldSentences(Sentences s) {
        this.s = s;
    }

    void run() {
        box();
        boxLock();
        prop();
        clue();
        game();
        group();
        latestStarts();
        result();
        nextStep();
        plan();
        planMinutes();
        differences();
        resetTold();
        logAt();
        count();
        behind();
        ranges();
    }

    private void box() {
        s.test(27, "0 for its outer box (NONE for the room)", () -> {
            ResetRooms x = Rooms.chain(11);
            s.is("the room", x.box(0, 0), Due.NONE);
            for (int box = 1; box <= 11; box++) {
                s.is("the box " + box, x.box(box, 0), box - 1);
            }
        });
        s.test(27, "1 for its lock (0 latch, 1 key, 2 code, 3 plate; NONE for the room)", () -> {
            ResetRooms x = Rooms.house();
            s.is("the room", x.box(0, 1), Due.NONE);
            for (int box = 1; box <= 4; box++) {
                s.is("the box " + box, x.box(box, 1), box - 1);
            }
        });
        s.test(27, "2 for whether it is open (1, otherwise 0)", () -> {
            ResetRooms x = Rooms.house();
            s.is("the room", x.box(0, 2), 1);
            s.is("a closed box", x.box(1, 2), 0);
            Due.play(x, 1);
            x.open(1, 0);
            s.is("an open box", x.box(1, 2), 1);
            x.giveUp();
            s.is("an open box after a game", x.box(1, 2), 1);
            x.close(1);
            s.is("a box that is closed again", x.box(1, 2), 0);
        });
        s.test(27, "3 for whether it is at hand", () -> {
            ResetRooms x = Rooms.house();
            s.is("the room", x.box(0, 3), 1);
            s.is("a box in the room", x.box(1, 3), 1);
            s.is("a box in a closed box", x.box(2, 3), 0);
            ResetRooms y = Rooms.played();
            s.is("a box in an open box", y.box(2, 3), 1);
        });
        s.test(27, "4 for the number of props that lie in it", () -> {
            ResetRooms x = Rooms.house();
            s.is("the room", x.box(0, 4), 2);
            s.is("the box 1", x.box(1, 4), 1);
            s.is("an empty box", x.box(4, 4), 0);
            Due.play(x, 3);
            x.open(1, 0);
            x.take(2);
            x.take(0);
            s.is("the room without what is held", x.box(0, 4), 1);
            s.is("the box without what is held", x.box(1, 4), 0);
            x.giveUp();
            s.is("the room with what fell", x.box(0, 4), 3);
        });
        s.test(27, "5 for the number of boxes that stand in it", () -> {
            ResetRooms x = Rooms.house();
            s.is("the room, without the box in the box 1", x.box(0, 5), 3);
            s.is("the box 1", x.box(1, 5), 1);
            s.is("a box without boxes", x.box(2, 5), 0);
            s.is("a room with all boxes", Rooms.latches(11).box(0, 5), 11);
        });
        s.test(27, "6 for the key, the prop of the plate or the code (NONE for a latch and the room)", () -> {
            ResetRooms x = Rooms.house();
            s.is("the room", x.box(0, 6), Due.NONE);
            s.is("a latch", x.box(1, 6), Due.NONE);
            s.is("a key", x.box(2, 6), 0);
            s.is("a code", x.box(3, 6), 417);
            s.is("a plate", x.box(4, 6), 1);
            s.is("the least code", Rooms.of("0 code 0000").box(1, 6), 0);
            s.is("the greatest code", Rooms.of("0 code 9999").box(1, 6), 9999);
        });
        s.test(27, "7 for the digits that the group knows, as a bit set (the bit k for the place k; 0 if there is no game)", () -> {
            ResetRooms x = Rooms.inked(1, 4);
            s.is("no game", x.box(1, 7), 0);
            Due.play(x, 1);
            s.is("none", x.box(1, 7), 0);
            x.read(3);
            s.is("the place 3", x.box(1, 7), 8);
            x.read(1);
            s.is("the places 1 and 3", x.box(1, 7), 10);
            x.read(0);
            x.read(2);
            s.is("all places", x.box(1, 7), 15);
            s.is("the room", x.box(0, 7), 0);
            x.giveUp();
            s.is("no game", x.box(1, 7), 0);
            Due.play(x, 1);
            s.is("the next game", x.box(1, 7), 0);
        });
    }

    private void boxLock() {
        s.test(27, "7 for the digits that the group knows", () -> {
            ResetRooms x = Rooms.inked(1, 1);
            Due.play(x, 1);
            x.read(0);
            x.open(1, 5678);
            s.is("no game after it is won", x.box(1, 7), 0);
            ResetRooms y = Rooms.inked(1, 1);
            Due.play(y, 1);
            y.read(0);
            y.rest(57);
            y.rest(1);
            s.is("no game after its time is over", y.box(1, 7), 0);
        });
        s.test(27, "a box", () -> {
            ResetRooms x = Rooms.latches(11);
            s.is("the first", x.box(0, 2), 1);
            s.is("the last", x.box(11, 2), 0);
        });
        s.test(27, "Returns the property", () -> {
            int[][] wanted = {{Due.NONE, Due.NONE, 1, 1, 2, 3, Due.NONE, 0}, {0, 0, 0, 1, 1, 1, Due.NONE, 0},
                {1, 1, 0, 0, 0, 0, 0, 0}, {0, 2, 0, 1, 0, 0, 417, 0}, {0, 3, 0, 1, 0, 0, 1, 0}};
            ResetRooms x = Rooms.house();
            for (int box = 0; box < wanted.length; box++) {
                for (int what = 0; what < 8; what++) {
                    s.is("box(" + box + ", " + what + ")", x.box(box, what), wanted[box][what]);
                }
            }
        });
    }

    private void prop() {
        s.test(28, "0 for its home", () -> {
            ResetRooms x = Rooms.played();
            s.is("the prop 0", x.prop(0, 0), 0);
            s.is("the prop 2, which lies elsewhere", x.prop(2, 0), 1);
        });
        s.test(28, "1 for the box in which it lies (NONE if it is held)", () -> {
            ResetRooms x = Rooms.game(1);
            s.is("at first", x.prop(2, 1), 1);
            x.open(1, 0);
            x.take(2);
            s.is("held", x.prop(2, 1), Due.NONE);
            x.lay(2, 0);
            s.is("in the room", x.prop(2, 1), 0);
        });
        s.test(28, "2 for whether it is at hand (1, otherwise 0)", () -> {
            ResetRooms x = Rooms.game(1);
            s.is("in the room", x.prop(0, 2), 1);
            s.is("in a closed box", x.prop(2, 2), 0);
            x.open(1, 0);
            s.is("in an open box", x.prop(2, 2), 1);
            x.take(2);
            s.is("held", x.prop(2, 2), 1);
        });
        s.test(28, "3 for the number of clues on it", () -> {
            ResetRooms x = Rooms.house();
            s.is("one", x.prop(0, 3), 1);
            s.is("none", x.prop(1, 3), 0);
            x.addClue(2, 3, 0);
            s.is("two", x.prop(2, 3), 2);
            s.is("all", Rooms.inked(1, 12).prop(0, 3), 12);
        });
        s.test(28, "4 for the number of boxes whose lock has it as its key or on its plate", () -> {
            ResetRooms x = Rooms.house();
            s.is("a key", x.prop(0, 4), 1);
            s.is("on a plate", x.prop(1, 4), 1);
            s.is("neither", x.prop(2, 4), 0);
            Due.box(x, "0 plate 0");
            s.is("a key and on a plate", x.prop(0, 4), 2);
            Due.box(x, "0 key 0");
            s.is("a key of two boxes and on a plate", x.prop(0, 4), 3);
            ResetRooms z = new ResetRooms();
            z.addProp(0);
            Due.box(z, "0 plate 0");
            s.is("on the plate of the first box", z.prop(0, 4), 1);
            Due.type(z, "0 key 0");
            for (int box = 2; box <= 11; box++) {
                z.addBox();
            }
            s.is("of all boxes", z.prop(0, 4), 11);
            ResetRooms y = Rooms.of("0 code 0000", "0 latch", "0 code 0001");
            y.addProp(0);
            y.addProp(0);
            s.is("a code that is its number", y.prop(0, 4) + y.prop(1, 4), 0);
        });
        s.test(28, "a prop", () -> {
            ResetRooms x = Rooms.inked(24, 0);
            s.is("the first", x.prop(0, 2), 1);
            s.is("the last", x.prop(23, 2), 1);
        });
        s.test(28, "Returns the property", () -> {
            int[][] wanted = {{0, 0, 1, 1, 1}, {0, 0, 1, 0, 1}, {1, 1, 0, 1, 0}};
            ResetRooms x = Rooms.house();
            for (int prop = 0; prop < wanted.length; prop++) {
                for (int what = 0; what < 5; what++) {
                    s.is("prop(" + prop + ", " + what + ")", x.prop(prop, what), wanted[prop][what]);
                }
            }
        });
    }

    private void clue() {
        s.test(29, "0 for its prop, 1 for its box, 2 for the place of the digit, 3 for its ink, 4 for the digit", () -> {
            int[][] wanted = {{0, 3, 1, 8, 4}, {2, 3, 3, 9, 7}, {1, 3, 0, 9, 0}, {1, 3, 2, 9, 1}};
            ResetRooms x = Rooms.house();
            x.idle(60);
            x.addClue(1, 3, 0);
            x.addClue(1, 3, 2);
            for (int clue = 0; clue < wanted.length; clue++) {
                for (int what = 0; what < 5; what++) {
                    s.is("clue(" + clue + ", " + what + ")", x.clue(clue, what), wanted[clue][what]);
                }
            }
        });
        s.test(29, "5 for whether it is at hand (1, otherwise 0)", () -> {
            ResetRooms x = Rooms.game(1);
            s.is("in the room", x.clue(0, 5), 1);
            s.is("in a closed box", x.clue(1, 5), 0);
            x.open(1, 0);
            s.is("in an open box", x.clue(1, 5), 1);
            x.take(0);
            s.is("held", x.clue(0, 5), 1);
        });
        s.test(29, "a clue", () -> {
            ResetRooms x = Rooms.inked(1, 12);
            s.is("the first", x.clue(0, 2), 0);
            s.is("the last", x.clue(11, 2), 3);
        });
        s.test(29, "Returns the property", () -> {
            ResetRooms x = Rooms.game(1);
            for (int ink = 9; ink > 0; ink--) {
                s.is("its ink", x.clue(0, 3), ink);
                x.read(0);
            }
            s.is("without ink", x.clue(0, 3), 0);
            s.is("its digit all the same", x.clue(0, 4), 4);
        });
    }

    private void game() {
        s.test(30, "0 for the players", () -> {
            for (int players = 1; players <= 6; players++) {
                s.is("game(0)", Rooms.game(players).game(0), players);
            }
        });
        s.test(30, "1 for the start", () -> {
            ResetRooms x = Rooms.house();
            x.idle(20);
            x.book(1, 10);
            x.startGame();
            x.rest(3);
            s.is("not the wanted one", x.game(1), 20);
        });
        s.test(30, "2 for the minutes that the game can still last", () -> {
            ResetRooms x = Rooms.house();
            x.idle(20);
            x.setLimits(25, 3);
            Due.play(x, 1);
            s.is("at first", x.game(2), 25);
            x.rest(24);
            s.is("a minute", x.game(2), 1);
            x.rest(1);
            s.is("none", x.game(2), 0);
        });
        s.test(30, "3 for the nudges that were told", () -> {
            ResetRooms x = Rooms.game(1);
            s.is("none", x.game(3), 0);
            x.nudge();
            s.is("one", x.game(3), 1);
            x.nextStep();
            s.is("a step that is told here is none", x.game(3), 1);
            x.nudge();
            x.nudge();
            x.nudge();
            s.is("a nudge that is not told does not count", x.game(3), 3);
        });
        s.test(30, "4 for the props that the group holds, as a bit set (the bit k for the prop k)", () -> {
            ResetRooms x = Rooms.inked(24, 0);
            Due.play(x, 6);
            s.is("none", x.game(4), 0);
            x.take(23);
            s.is("the prop 23", x.game(4), 1 << 23);
            x.take(0);
            x.take(5);
            s.is("0, 5 and 23", x.game(4), 1 << 23 | 1 << 5 | 1);
            x.lay(0, 0);
            s.is("5 and 23", x.game(4), 1 << 23 | 1 << 5);
        });
        s.test(30, "5 for the number of wrong codes", () -> {
            ResetRooms x = Rooms.game(6);
            s.is("none", x.game(5), 0);
            x.open(3, 1);
            x.open(1, 1);
            x.open(3, 2);
            s.is("two", x.game(5), 2);
        });
        s.test(30, "Returns the property of the present game", () -> {
            ResetRooms x = Rooms.game(4);
            x.take(0);
            x.nudge();
            x.open(3, 1);
            x.giveUp();
            Due.play(x, 2);
            int[] wanted = {2, 7, 60, 0, 0, 0};
            for (int what = 0; what < 6; what++) {
                s.is("game(" + what + ")", x.game(what), wanted[what]);
            }
        });
        for (int what = 0; what <= 5; what++) {
            int number = what;
            s.refused(30, "NOT_POSSIBLE if there is no game.", "game(" + what + ")", Rooms::house, x -> x.game(number),
                    Due.NOT_POSSIBLE);
            s.refused(30, "NOT_POSSIBLE if there is no game.", "game(" + what + ") after one", Rooms::played, x -> x.game(number),
                    Due.NOT_POSSIBLE);
        }
        for (int what : new int[] {-1, 6, Integer.MAX_VALUE, Integer.MIN_VALUE}) {
            s.refused(30, "BAD_VALUE; NOT_POSSIBLE if there is no game.", "game(" + what + ") without one", Rooms::house,
                    x -> x.game(what), Due.BAD_VALUE);
        }
    }

    private void group() {
        s.test(31, "0 for the group that plays next, and so on", () -> {
            ResetRooms x = waiting();
            s.is("the next one", x.group(0, 1), 3);
            s.is("the last one", x.group(4, 1), 300);
            x.startGame();
            s.is("the next one then", x.group(0, 1), 75);
            s.is("there is no fifth one", x.group(4, 1), Due.UNKNOWN);
        });
        s.test(31, "0 for its players, 1 for the minute at which it wants to start", () -> {
            ResetRooms x = waiting();
            int[] starts = {3, 75, 76, 300, 300};
            for (int group = 0; group < 5; group++) {
                s.is("players", x.group(group, 0), group + 1);
                s.is("wanted", x.group(group, 1), starts[group]);
            }
        });
        s.test(31, "Returns the property", () -> {
            ResetRooms x = Rooms.booked(8);
            for (int group = 0; group < 8; group++) {
                s.is("group(" + group + ", 2)", x.group(group, 2), 50 + 70 * group);
            }
        });
    }

    /** Five groups at the minute 5. */
    private static ResetRooms waiting() {
        ResetRooms x = Rooms.house();
        x.idle(5);
        x.book(1, 3);
        x.book(2, 75);
        x.book(3, 76);
        x.book(4, 300);
        x.book(5, 300);
        return x;
    }

    private void starts(String when, ResetRooms x, int... wanted) {
        for (int group = 0; group < wanted.length; group++) {
            s.is("group(" + group + ", 2) " + when, x.group(group, 2), wanted[group]);
        }
    }

    private void latestStarts() {
        String quote = "2 for the minute at which it starts if the present game and all games ahead of it last as long as they"
                + " can, and 10 minutes pass between two games (it starts now, or when it wants to, if nothing is ahead of it)";
        s.test(31, quote, () -> {
            ResetRooms x = waiting();
            starts("between games", x, 5, 75, 145, 300, 370);
            x.startGame();
            starts("in a game", x, 75, 145, 300, 370);
            x.rest(10);
            starts("later in it", x, 75, 145, 300, 370);
            x.giveUp();
            starts("as it is over", x, 75, 145, 300, 370);
            x.idle(61);
            starts("at 76", x, 76, 146, 300, 370);
            x.cancel(0);
            starts("with a group cancelled", x, 76, 300, 370);
        });
        s.test(31, quote, () -> {
            ResetRooms x = Rooms.house();
            x.setLimits(33, 3);
            x.book(1, 0);
            x.book(1, 42);
            x.book(1, 87);
            starts("with the limit 33", x, 0, 43, 87);
            x.startGame();
            starts("in a game", x, 43, 87);
            x.rest(33);
            starts("at its last minute", x, 43, 87);
            x.giveUp();
            starts("when nothing is ahead, without 10 minutes", x, 42, 87);
            x.idle(12);
            starts("at 45, it starts now", x, 45, 88);
        });
        for (int group : new int[] {-1, 5, Integer.MAX_VALUE, Integer.MIN_VALUE}) {
            s.refused(31, "UNKNOWN", "group(" + group + ", 0)", ToldSentences::waiting, x -> x.group(group, 0), Due.UNKNOWN);
            s.refused(31, "UNKNOWN; BAD_VALUE.", "group(" + group + ", 3)", ToldSentences::waiting, x -> x.group(group, 3),
                    Due.UNKNOWN);
        }
        s.refused(31, "UNKNOWN", "no group waits", Rooms::house, x -> x.group(0, 0), Due.UNKNOWN);
    }

    private void result() {
        s.test(32, "a result, from 0 in the order of games", () -> {
            ResetRooms x = twoResults();
            s.is("the first", x.result(0, 2), 20);
            s.is("the second", x.result(1, 2), 35);
        });
        int[][] wanted = {{2, 20, 20, 12, 0, 2, 0}, {5, 30, 35, 4, 1, 0, 2}};
        String[] quotes = {"0 for the players", "1 for the minute at which the group wanted to start", "2 for the start",
            "3 for how many minutes the game lasted", "4 for whether it was won (1, otherwise 0)",
            "5 for the nudges that were told"};
        for (int i = 0; i < quotes.length; i++) {
            int what = i;
            s.test(32, quotes[i], () -> {
                ResetRooms x = twoResults();
                s.is("result(0, " + what + ")", x.result(0, what), wanted[0][what]);
                s.is("result(1, " + what + ")", x.result(1, what), wanted[1][what]);
            });
        }
        s.test(32, "6 for the differences at its start (differences(0) and differences(1) together)", () -> {
            ResetRooms x = twoResults();
            s.is("a room as at first", x.result(0, 6), 0);
            s.is("a box and a prop", x.result(1, 6), 2);
            x.close(3);
            x.putHome(2);
            x.idle(600);
            Due.play(x, 1);
            x.take(0);
            x.giveUp();
            s.is("a box, without clues and what happens in the game", x.result(2, 6), 1);
        });
        s.test(32, "Returns the property", () -> {
            ResetRooms x = Rooms.results(30);
            for (int result = 0; result < 30; result++) {
                s.is("result(" + result + ", 0)", x.result(result, 0), 1);
            }
            s.is("result(30, 0)", x.result(30, 0), Due.UNKNOWN);
        });
        for (int result : new int[] {-1, 2, Integer.MAX_VALUE, Integer.MIN_VALUE}) {
            s.refused(32, "UNKNOWN", "result(" + result + ", 0)", ToldSentences::twoResults, x -> x.result(result, 0),
                    Due.UNKNOWN);
            s.refused(32, "UNKNOWN; BAD_VALUE.", "result(" + result + ", 7)", ToldSentences::twoResults, x -> x.result(result, 7),
                    Due.UNKNOWN);
        }
        s.refused(32, "UNKNOWN", "the present game has none", () -> Rooms.game(1), x -> x.result(0, 0), Due.UNKNOWN);
    }

    /** A game of two players that gave up, and one of five, who won. */
    private static ResetRooms twoResults() {
        ResetRooms x = Rooms.house();
        x.book(2, 20);
        x.startGame();
        x.nudge();
        x.open(1, 0);
        x.take(2);
        x.nudge();
        x.rest(3);
        x.giveUp();
        x.idle(3);
        x.book(5, 30);
        x.startGame();
        x.rest(2);
        x.open(3, 417);
        return x;
    }

    private void nextStep() {
        s.test(33, "Tells the next step for the exit in the present game.", () -> {
            ResetRooms x = Rooms.game(1);
            s.is("the digit of the exit", x.nextStep(), 500);
            s.is("nothing is known by it", x.box(3, 7), 0);
            s.is("no minute passes", x.count(5), 0);
            s.is("no nudge is told", x.game(3), 0);
            s.is("the log", x.count(10), 0);
            x.nudge();
            s.is("the clue", x.nextStep(), 400);
            x.giveUp();
            x.setExit(2);
            Due.play(x, 1);
            s.is("of another exit", x.nextStep(), 301);
        });
        s.test(33, "Returns the step", () -> {
            ResetRooms x = Rooms.house();
            x.setLimits(60, 0);
            Due.play(x, 1);
            s.is("without nudges", x.nextStep(), 500);
            x.rest(60);
            s.is("without minutes", x.nextStep(), 500);
        });
        s.refused(33, "NOT_POSSIBLE if there is no game", "no game", Rooms::house, ResetRooms::nextStep, Due.NOT_POSSIBLE);
        s.refused(33, "NOT_POSSIBLE if there is no game", "no exit", ResetRooms::new, ResetRooms::nextStep, Due.NOT_POSSIBLE);
        s.refused(33, "NONE if there is none.", "no step", () -> Rooms.circle(1), ResetRooms::nextStep, Due.NONE);
        s.refused(33, "NOT_POSSIBLE if there is no game; NONE if there is none.", "no step, no game", () -> {
            ResetRooms x = Rooms.circle(1);
            x.giveUp();
            return x;
        }, ResetRooms::nextStep, Due.NOT_POSSIBLE);
    }

    private void plan() {
        s.test(34, "1 to 6", () -> {
            int[] minutes = {2 + 3 + 2 + 4 + 3 + 4, 2 + 2 + 2 + 3 + 2 + 3, 2 + 2 + 2 + 3 + 2 + 3, 2 + 1 + 2 + 2 + 1 + 2,
                2 + 1 + 2 + 2 + 1 + 2, 2 + 1 + 2 + 1 + 1 + 1};
            for (int players = 1; players <= 6; players++) {
                s.is("plan(" + players + ")", Rooms.house().plan(players), minutes[players - 1]);
            }
        });
        for (int players : new int[] {0, 7, -1, Integer.MAX_VALUE, Integer.MIN_VALUE}) {
            s.refused(34, "BAD_VALUE", "plan(" + players + ")", Rooms::house, x -> x.plan(players), Due.BAD_VALUE);
            s.refused(34, "BAD_VALUE; NOT_POSSIBLE during a game or without an exit", "plan(" + players + ") without an exit",
                    ResetRooms::new, x -> x.plan(players), Due.BAD_VALUE);
            s.refused(34, "BAD_VALUE; NOT_POSSIBLE during a game or without an exit", "plan(" + players + ") during a game",
                    () -> Rooms.game(1), x -> x.plan(players), Due.BAD_VALUE);
        }
        s.test(34, "Returns the minutes, 0 if the exit is open", () -> {
            ResetRooms x = Rooms.game(1);
            x.open(3, 417);
            s.is("the exit is open", x.plan(1), 0);
            x.close(3);
            s.is("the exit is closed", x.plan(6), 8);
            ResetRooms y = Rooms.of("0 latch", "1 latch");
            Due.play(y, 1);
            y.open(1, 0);
            y.open(2, 0);
            y.close(1);
            s.is("the exit is open in a closed box", y.plan(1), 0);
        });
        String reasons = "NOT_POSSIBLE during a game or without an exit";
        s.refused(34, reasons, "during a game", () -> Rooms.game(1), x -> x.plan(1), Due.NOT_POSSIBLE);
        s.refused(34, reasons, "without boxes", ResetRooms::new, x -> x.plan(1), Due.NOT_POSSIBLE);
        s.refused(34, reasons, "without an exit", () -> {
            ResetRooms x = new ResetRooms();
            Due.box(x, "0 latch");
            return x;
        }, x -> x.plan(1), Due.NOT_POSSIBLE);
        s.refused(34, "NONE if it comes to where there is no step.", "a circle", () -> {
            ResetRooms x = Rooms.circle(1);
            x.giveUp();
            return x;
        }, x -> x.plan(1), Due.NONE);
        s.refused(34, "NOT_POSSIBLE during a game or without an exit; NONE if it comes to where there is no step.",
                "a circle during a game", () -> Rooms.circle(1), x -> x.plan(1), Due.NOT_POSSIBLE);
        s.test(34, "NONE if it comes to where there is no step.", () -> {
            ResetRooms x = Rooms.of("0 latch", "0 code 1234");
            x.addProp(2);
            x.addClue(0, 2, 3);
            s.is("after three digits that the master tells", x.plan(1), Due.NONE);
            ResetRooms y = Rooms.of("0 latch", "0 code 1234");
            y.addProp(1);
            y.addClue(0, 2, 3);
            s.is("with the clue in another box", y.plan(1), 2 + 2 + 2 + 4 + 3 + 4);
        });
    }

    private void planMinutes() {
        s.test(34, "Tells how long a group would need for the room as it is now if it just did the next step for the exit each"
                + " time, until the exit is open", () -> {
            ResetRooms x = Rooms.of("0 latch", "1 latch", "2 latch");
            s.is("three boxes", x.plan(1), 12);
            Due.play(x, 1);
            x.open(1, 0);
            x.giveUp();
            s.is("two boxes as it is now", x.plan(1), 8);
            s.is("nothing is done by it", x.box(2, 2) + x.box(3, 2) + x.count(5), 4);
            ResetRooms y = Rooms.of("0 latch");
            y.addProp(0);
            y.addProp(1);
            Due.box(y, "1 plate 0");
            Due.box(y, "0 key 1");
            y.setExit(3);
            s.is("a key in a box", y.plan(1), 4 + 3 + 4);
            y.setExit(2);
            s.is("a prop to be laid", y.plan(1), 4 + 3 + 2 + 4);
        });
        s.test(34, "Tells how long a group would need", () -> {
            ResetRooms x = new ResetRooms();
            x.addProp(0);
            Due.box(x, "0 key 0");
            x.addProp(1);
            Due.box(x, "0 key 1");
            x.addProp(2);
            Due.box(x, "0 key 2");
            x.setExit(3);
            s.is("one hand", x.plan(1), 3 + 4 + 2 + 3 + 4 + 2 + 3 + 4);
            s.is("two hands", x.plan(2), 2 + 3 + 2 + 3 + 1 + 2 + 3);
            s.is("three hands", x.plan(3), 2 + 3 + 2 + 3 + 2 + 3);
            s.is("the props stay", x.prop(0, 1) + x.prop(1, 1) + x.prop(2, 1), 3);
        });
        s.test(34, "a digit that the master tells takes 2 minutes, however often", () -> {
            ResetRooms x = Rooms.of("0 code 1234");
            x.setLimits(60, 0);
            s.is("four digits without nudges", x.plan(1), 4 * 2 + 4);
            s.is("by 6 players", x.plan(6), 4 * 2 + 1);
            ResetRooms y = Rooms.of("0 code 1234", "1 code 1234", "2 code 1234");
            s.is("twelve digits", y.plan(1), 12 * 2 + 3 * 4);
        });
        s.test(34, "time does not run out", () -> {
            ResetRooms x = Rooms.chain(11);
            x.setLimits(10, 3);
            s.is("44 minutes of 10", x.plan(1), 44);
            ResetRooms y = new ResetRooms();
            Due.box(y, "0 code 1234");
            for (int box = 2; box <= 11; box++) {
                Due.type(y, box - 1 + " code 1234");
                y.addBox();
            }
            y.setExit(11);
            s.is("eleven codes", y.plan(1), 11 * 12);
        });
        s.test(34, "time does not run out, and no ink fades but by reading", () -> {
            ResetRooms x = Rooms.inked(1, 4);
            x.idle(299);
            s.is("4 full hours are past, the next is a minute away", x.clue(0, 3), 5);
            s.is("with 5 units", x.plan(1), 4 * 3 + 4);
            x.idle(60);
            s.is("with 4 units, though the next hour is a minute away", x.plan(1), 4 * 3 + 4);
            x.idle(60);
            s.is("with 3 units", x.plan(1), 4 * 6 + 4);
            x.idle(120);
            s.is("with 1 unit", x.plan(1), 4 * 6 + 4);
            x.idle(1);
            s.is("without ink", x.plan(1), 4 * 2 + 4);
            s.is("the ink stays", Rooms.inked(1, 4).plan(1) + x.clue(0, 3), 4 * 3 + 4);
        });
    }

    private void differences() {
        s.test(35, "0 for the number of props that do not lie at home (one that is held does not)", () -> {
            ResetRooms x = Rooms.game(3);
            s.is("none", x.differences(0), 0);
            x.take(0);
            s.is("one that is held", x.differences(0), 1);
            x.open(1, 0);
            x.take(2);
            s.is("two that are held", x.differences(0), 2);
            x.lay(2, 1);
            s.is("laid at home", x.differences(0), 1);
            x.lay(0, 1);
            s.is("laid elsewhere", x.differences(0), 1);
            x.giveUp();
            s.is("after the game", x.differences(0), 1);
        });
        s.test(35, "1 for the number of boxes, but the room, that are open", () -> {
            ResetRooms x = Rooms.game(1);
            s.is("none", x.differences(1), 0);
            x.open(1, 0);
            x.open(4, 0);
            s.is("two", x.differences(1), 2);
            x.giveUp();
            x.close(1);
            s.is("one", x.differences(1), 1);
        });
        s.test(35, "2 for the number of clues with less than 4 units of ink", () -> {
            ResetRooms x = Rooms.inked(2, 2);
            x.idle(300);
            s.is("4 units", x.differences(2), 0);
            x.addClue(0, 1, 0);
            x.idle(60);
            s.is("3 units", x.differences(2), 2);
            x.idle(300);
            s.is("no ink, and 3 units", x.differences(2), 3);
        });
        s.test(35, "Returns the number", () -> {
            ResetRooms x = Rooms.played();
            int[] wanted = {1, 1, 0, 2, 0};
            for (int what = 0; what < 5; what++) {
                s.is("differences(" + what + ")", x.differences(what), wanted[what]);
            }
        });
    }

    private void resetTold() {
        s.test(35, "3 for the minutes that reset() would take now (0 if there is nothing to do; also during a game)", () -> {
            ResetRooms x = Rooms.house();
            s.is("nothing to do", x.differences(3), 0);
            x.idle(360);
            s.is("no paint for a clue", x.differences(3), 0);
            x.addPaint(6);
            s.is("a clue", x.differences(3), 1);
            Due.play(x, 2);
            s.is("a clue during a game", x.differences(3), 1);
            x.take(0);
            s.is("and a prop that is held", x.differences(3), 2);
            x.open(1, 0);
            s.is("and an open box", x.differences(3), 3);
            x.giveUp();
            s.is("the prop lies in the room, at home", x.differences(3), 2);
            s.is("reset()", x.reset(), 2);
            s.is("nothing to do", x.differences(3), 0);
        });
        s.test(35, "4 for the paint that it would use", () -> {
            ResetRooms x = Rooms.inked(1, 2);
            x.idle(300);
            x.addPaint(100);
            s.is("4 units are enough", x.differences(4), 0);
            x.addClue(0, 1, 2);
            x.idle(60);
            s.is("two of 3 units", x.differences(4), 12);
            Due.play(x, 1);
            x.read(1);
            s.is("3 and 2 units, during a game", x.differences(4), 13);
            x.giveUp();
            s.is("the paint stays", x.count(6), 100);
            x.reset();
            s.is("the paint that is used", x.count(6), 87);
        });
        int[][] rows = {{5, 0, 0}, {6, 6, 1}, {11, 6, 1}, {12, 12, 2}, {13, 12, 2}};
        for (int[] row : rows) {
            s.test(35, "4 for the paint that it would use", () -> {
                ResetRooms x = Rooms.inked(1, 2);
                x.idle(360);
                x.addPaint(row[0]);
                s.is("with " + row[0] + " units of paint", x.differences(4), row[1]);
                s.is("minutes with " + row[0] + " units of paint", x.differences(3), row[2]);
            });
        }
    }

    private void logAt() {
        s.test(36, "an index in the log, from 0", () -> {
            ResetRooms x = Rooms.played();
            String log = "0:open 1/4:take 2/7:rest 3/10:up/";
            s.is("its length", x.count(10), log.length());
            for (int i = 0; i < log.length(); i++) {
                s.is("logAt(" + i + ")", x.logAt(i), log.charAt(i));
            }
        });
        s.test(36, "Returns the code of the character there", () -> {
            ResetRooms x = Rooms.played();
            s.is("0", x.logAt(0), 48);
            s.is(":", x.logAt(1), 58);
            s.is("o", x.logAt(2), 111);
            s.is("a blank", x.logAt(6), 32);
            s.is("/", x.logAt(8), 47);
        });
        for (int index : new int[] {-1, -2, Integer.MIN_VALUE}) {
            s.refused(36, "BAD_VALUE if index is negative", "logAt(" + index + ")", Rooms::played, x -> x.logAt(index),
                    Due.BAD_VALUE);
            s.refused(36, "BAD_VALUE if index is negative; NONE if it is not so long.", "logAt(" + index + ") of an empty log",
                    Rooms::house, x -> x.logAt(index), Due.BAD_VALUE);
        }
        for (int index : new int[] {33, 34, 2047, 2048, 5000, Integer.MAX_VALUE}) {
            s.refused(36, "NONE if it is not so long.", "logAt(" + index + ")", Rooms::played, x -> x.logAt(index), Due.NONE);
        }
        s.refused(36, "NONE if it is not so long.", "an empty log", Rooms::house, x -> x.logAt(0), Due.NONE);
        s.test(36, "NONE if it is not so long.", () -> {
            ResetRooms x = Rooms.played();
            s.is("the last character", x.logAt(32), '/');
            Due.play(x, 1);
            s.is("nothing is left of the earlier log", x.logAt(0), Due.NONE);
            s.is("nothing is left of the earlier log", x.logAt(32), Due.NONE);
        });
    }

    private void count() {
        int[] first = {5, 3, 2, 0, 0, 0, 0, 0, 0, 3, 0, 11, 60, 3, 0};
        int[] later = {6, 4, 3, 2, 1, 114, 7, 2, 1, 2, "0:rest 9/9:up/".length(), 9, 99, 8, 0};
        for (int i = 0; i < COUNTS.length; i++) {
            int what = i;
            s.test(37, COUNTS[i], () -> {
                ResetRooms x = Rooms.house();
                Due.type(x, "0 plate 1xx");
                s.is("at first", x.count(what), first[what]);
                change(x);
                s.is("later", x.count(what), later[what]);
            });
        }
        s.test(37, COUNTS[9], () -> s.is("no exit", new ResetRooms().count(9), Due.NONE));
        s.test(37, COUNTS[14], () -> s.is("a game", Rooms.game(1).count(14), 1));
        s.test(37, "Returns the number", () -> {
            s.is("all boxes", Rooms.latches(11).count(0), 12);
            s.is("all props", Rooms.inked(24, 0).count(1), 24);
            s.is("all clues", Rooms.inked(1, 12).count(2), 12);
            s.is("all groups", Rooms.booked(8).count(3), 8);
            s.is("all results", Rooms.results(30).count(7), 30);
        });
    }

    /** Changes all that count() tells. */
    private static void change(ResetRooms x) {
        x.addProp(0);
        x.addClue(1, 3, 0);
        Due.box(x, "1 latch  ");
        Due.box(x, "1 latch");
        x.addPaint(7);
        x.setLimits(99, 8);
        x.book(1, 100);
        x.startGame();
        x.open(3, 417);
        x.close(3);
        x.setExit(2);
        x.book(1, 105);
        x.startGame();
        x.rest(9);
        x.giveUp();
        x.book(2, 113);
        x.book(3, 114);
        Due.type(x, "0 plate 1");
    }

    private void behind() {
        s.test(37, COUNTS[4], () -> {
            ResetRooms x = Rooms.house();
            x.book(1, 10);
            x.book(1, 20);
            x.book(1, 20);
            x.book(1, 30);
            int[][] rows = {{9, 0}, {1, 0}, {1, 1}, {9, 1}, {1, 3}, {8, 3}, {1, 3}, {1, 4}};
            for (int[] row : rows) {
                x.idle(row[0]);
                s.is("groups behind at " + x.count(5), x.count(4), row[1]);
            }
            x.startGame();
            s.is("the group that plays does not wait", x.count(4), 3);
            x.cancel(0);
            s.is("a group that was cancelled does not wait", x.count(4), 2);
        });
    }

    private void ranges() {
        for (int what : new int[] {-1, 8, Integer.MAX_VALUE, Integer.MIN_VALUE}) {
            badWhat(27, "BAD_VALUE", "box(0, " + what + ")", x -> x.box(0, what));
            badWhat(27, "BAD_VALUE", "box(2, " + what + ")", x -> x.box(2, what));
        }
        for (int what : new int[] {-1, 5, Integer.MAX_VALUE, Integer.MIN_VALUE}) {
            badWhat(28, "BAD_VALUE", "prop(0, " + what + ")", x -> x.prop(0, what));
            badWhat(35, "BAD_VALUE", "differences(" + what + ")", x -> x.differences(what));
        }
        for (int what : new int[] {-1, 6, Integer.MAX_VALUE, Integer.MIN_VALUE}) {
            badWhat(29, "BAD_VALUE", "clue(0, " + what + ")", x -> x.clue(0, what));
            s.refused(30, "BAD_VALUE", "game(" + what + ")", () -> Rooms.game(1), x -> x.game(what), Due.BAD_VALUE);
        }
        for (int what : new int[] {-1, 3, Integer.MAX_VALUE, Integer.MIN_VALUE}) {
            s.refused(31, "BAD_VALUE", "group(0, " + what + ")", ToldSentences::waiting, x -> x.group(0, what), Due.BAD_VALUE);
        }
        for (int what : new int[] {-1, 7, Integer.MAX_VALUE, Integer.MIN_VALUE}) {
            s.refused(32, "BAD_VALUE", "result(0, " + what + ")", ToldSentences::twoResults, x -> x.result(0, what), Due.BAD_VALUE);
        }
        for (int what : new int[] {-1, 15, Integer.MAX_VALUE, Integer.MIN_VALUE}) {
            badWhat(37, "BAD_VALUE", "count(" + what + ")", x -> x.count(what));
        }
        for (int number : new int[] {-1, 5, Integer.MAX_VALUE, Integer.MIN_VALUE}) {
            unknown(27, "box(" + number, x -> x.box(number, 0), x -> x.box(number, 8));
            unknown(28, "prop(" + number, x -> x.prop(number, 0), x -> x.prop(number, 5));
            unknown(29, "clue(" + number, x -> x.clue(number, 0), x -> x.clue(number, 6));
        }
        unknown(28, "prop(3", x -> x.prop(3, 0), x -> x.prop(3, -1));
        unknown(29, "clue(2", x -> x.clue(2, 0), x -> x.clue(2, -1));
    }

    private void badWhat(int promise, String quote, String call, ToIntFunction<ResetRooms> made) {
        s.refused(promise, quote, call, Rooms::house, made, Due.BAD_VALUE);
    }

    private void unknown(int promise, String call, ToIntFunction<ResetRooms> good, ToIntFunction<ResetRooms> bad) {
        s.refused(promise, "UNKNOWN", call + ", 0)", Rooms::house, good, Due.UNKNOWN);
        s.refused(promise, "UNKNOWN; BAD_VALUE.", call + ", what that is out of range)", Rooms::house, bad, Due.UNKNOWN);
    }
}
