import java.util.function.Supplier;
import java.util.function.ToIntFunction;

/** The sentences of the promises 10 to 19: groups and games. */
final class GameSentences {
    private static final int[] FAR_NUMBERS = {-1, Integer.MAX_VALUE, Integer.MIN_VALUE};
    private static final String BOOK_ERRORS = "BAD_VALUE; NOT_POSSIBLE if the last one of the groups that wait wants to start"
            + " later; FULL if 8 groups wait.";
    private static final String START_ERRORS = "NOT_POSSIBLE during a game, if no group waits, or if there is no exit or it is"
            + " open; FULL if there are 30 results.";
    private static final String TAKE_ERRORS = "UNKNOWN; NOT_POSSIBLE if there is no game, or the prop is held or not at hand;"
            + " FULL if the group holds as many as it can; TIME_OVER.";
    private static final String LAY_ERRORS = "UNKNOWN; NOT_POSSIBLE if there is no game, the prop is not held, or the box is"
            + " not open or not at hand; TIME_OVER.";
    private static final String OPEN_REASONS = "NOT_POSSIBLE if there is no game, the box is open or not at hand, its key is"
            + " not held, or the prop of its plate does not lie in its outer box";
    private static final String OPEN_ERRORS = "UNKNOWN; " + OPEN_REASONS + "; TIME_OVER.";
    private static final String READ_ERRORS = "UNKNOWN; NOT_POSSIBLE if there is no game, or the clue is not at hand; NONE if"
            + " it has no ink; TIME_OVER.";
    private static final String REST_ERRORS = "BAD_VALUE; NOT_POSSIBLE if there is no game; TIME_OVER.";
    private static final String NUDGE_ERRORS = "NOT_POSSIBLE if there is no game; FULL if the master was asked as often as can"
            + " be; NONE if there is no step; TIME_OVER.";
    private static final String ACT = "This is an act of the group.";

    private final Sentences s;

    GameSentences(Sentences s) {
        this.s = s;
    }

    void run() {
        book();
        cancel();
        startGame();
        startErrors();
        take();
        lay();
        layErrors();
        open();
        openErrors();
        read();
        readErrors();
        rest();
        nudge();
        nudgeErrors();
        giveUp();
    }

    /** The act has an entry, takes its minutes, is done at the last minute and is over by time a minute later. */
    private void isAct(int promise, Supplier<ResetRooms> room, ToIntFunction<ResetRooms> act, int minutes, String entry) {
        s.test(promise, ACT, () -> {
            ResetRooms x = room.get();
            String log = Due.log(x);
            int minute = x.count(5) - x.game(1);
            int left = x.game(2);
            act.applyAsInt(x);
            s.is("the log", Due.log(x), log + minute + ":" + entry + "/");
            s.is("its minutes", x.game(2), left - minutes);
        });
        s.test(promise, "TIME_OVER", () -> {
            ResetRooms x = room.get();
            String log = Due.log(x);
            int minute = x.count(5) - x.game(1);
            int rest = x.game(2) - minutes + 1;
            Rooms.pass(x, rest);
            s.is("a minute too late", act.applyAsInt(x), Due.TIME_OVER);
            s.is("the log", Due.log(x), log + (rest > 0 ? minute + ":rest " + rest + "/" : "") + (minute + rest) + ":over/");
            s.is("the game", x.count(14), 0);
            s.is("minutes of the game", x.result(0, 3), 60);
            s.is("it is lost", x.result(0, 4), 0);
            ResetRooms y = room.get();
            Rooms.pass(y, y.game(2) - minutes);
            s.is("at the last minute it is done", act.applyAsInt(y) == Due.TIME_OVER ? 1 : 0, 0);
            s.is("the game goes on without minutes", y.game(2), 0);
        });
    }

    private void book() {
        s.test(10, "Books a group.", () -> {
            ResetRooms x = Rooms.house();
            x.book(5, 17);
            s.is("groups", x.count(3), 1);
            s.is("its players", x.group(0, 0), 5);
            s.is("its minute", x.group(0, 1), 17);
        });
        s.test(10, "1 to 6", () -> {
            ResetRooms x = new ResetRooms();
            for (int players = 1; players <= 6; players++) {
                s.is("players: " + players, x.book(players, 0), players);
                s.is("they are told", x.group(players - 1, 0), players);
            }
        });
        s.test(10, "0 to 100000: the minute at which it wants to start", () -> {
            ResetRooms x = Due.latchRoom();
            x.idle(1);
            s.is("0", x.book(1, 0), 1);
            s.is("100000", x.book(2, 100000), 2);
            s.is("late by", x.startGame(), 1);
            x.giveUp();
            s.is("in time", x.startGame(), 0);
            s.is("the clock", x.count(5), 100000);
        });
        s.test(10, "Returns how many groups wait then", () -> {
            ResetRooms x = Due.latchRoom();
            for (int groups = 1; groups <= 8; groups++) {
                s.is("book", x.book(1, 0), groups);
            }
            x.startGame();
            s.is("during a game, of which the group waits no longer", x.book(1, 0), 8);
            x.cancel(0);
            x.cancel(0);
            s.is("after two that were cancelled", x.book(1, 0), 7);
        });
        for (int players : new int[] {0, 7, -1, Integer.MAX_VALUE, Integer.MIN_VALUE}) {
            s.refused(10, "BAD_VALUE", players + " players", Rooms::house, x -> x.book(players, 0), Due.BAD_VALUE);
        }
        for (int start : new int[] {-1, 100001, Integer.MAX_VALUE, Integer.MIN_VALUE}) {
            s.refused(10, "BAD_VALUE", "the start " + start, Rooms::house, x -> x.book(1, start), Due.BAD_VALUE);
        }
        String later = "NOT_POSSIBLE if the last one of the groups that wait wants to start later";
        s.refused(10, later, "a minute earlier", () -> Rooms.booked(1), x -> x.book(1, 49), Due.NOT_POSSIBLE);
        s.test(10, later, () -> {
            ResetRooms x = Rooms.booked(1);
            s.is("at the same minute", x.book(1, 50), 2);
            x.book(1, 70);
            s.is("later than the first, earlier than the last", x.book(1, 60), Due.NOT_POSSIBLE);
            x.cancel(2);
            s.is("with the last one cancelled", x.book(1, 60), 3);
            ResetRooms y = Rooms.booked(1);
            y.startGame();
            s.is("the group that plays does not wait", y.book(1, 0), 1);
            s.is("a start that is past by then", y.book(1, 5), 2);
        });
        s.refused(10, "FULL if 8 groups wait.", "a ninth group", () -> Rooms.booked(8), x -> x.book(1, 50), Due.FULL);
        s.test(10, "FULL if 8 groups wait.", () -> s.is("an eighth", Rooms.booked(7).book(1, 50), 8));
        s.refused(10, BOOK_ERRORS, "0 players, earlier", () -> Rooms.booked(1), x -> x.book(0, 49), Due.BAD_VALUE);
        s.refused(10, BOOK_ERRORS, "the start -1, earlier", () -> Rooms.booked(1), x -> x.book(1, -1), Due.BAD_VALUE);
        s.refused(10, BOOK_ERRORS, "7 players, a ninth group", () -> Rooms.booked(8), x -> x.book(7, 50), Due.BAD_VALUE);
        s.refused(10, BOOK_ERRORS, "a ninth group, earlier", () -> Rooms.booked(8), x -> x.book(1, 49), Due.NOT_POSSIBLE);
    }

    private static ResetRooms threeGroups() {
        ResetRooms x = Rooms.house();
        x.book(1, 10);
        x.book(2, 20);
        x.book(3, 30);
        return x;
    }

    private void cancel() {
        s.test(11, "Removes a group that waits.", () -> {
            ResetRooms x = threeGroups();
            x.cancel(1);
            s.is("the first one stays", x.group(0, 0) * 100 + x.group(0, 1), 110);
            s.is("the third one comes up", x.group(1, 0) * 100 + x.group(1, 1), 330);
            s.is("there is no third one", x.group(2, 0), Due.UNKNOWN);
            ResetRooms y = Rooms.booked(2);
            y.startGame();
            s.is("during a game", y.cancel(0), 0);
            s.is("the group that plays cannot be removed", y.cancel(0), Due.UNKNOWN);
        });
        s.test(11, "0 for the one that plays next, and so on", () -> {
            for (int group = 0; group < 3; group++) {
                ResetRooms x = threeGroups();
                x.cancel(group);
                x.startGame();
                s.is("the next to play without " + group, x.game(0), group == 0 ? 2 : 1);
                s.is("the one behind it without " + group, x.group(0, 0), group == 2 ? 2 : 3);
            }
        });
        s.test(11, "Returns how many groups wait then", () -> {
            ResetRooms x = threeGroups();
            s.is("cancel(2)", x.cancel(2), 2);
            s.is("cancel(0)", x.cancel(0), 1);
            s.is("cancel(0)", x.cancel(0), 0);
        });
        for (int group : new int[] {-1, 3, 8, Integer.MAX_VALUE, Integer.MIN_VALUE}) {
            s.refused(11, "UNKNOWN", "cancel(" + group + ")", GameSentences::threeGroups, x -> x.cancel(group), Due.UNKNOWN);
        }
        s.refused(11, "UNKNOWN", "no group waits", Rooms::house, x -> x.cancel(0), Due.UNKNOWN);
    }

    private void startGame() {
        s.test(12, "Starts the game of the group that plays next.", () -> {
            ResetRooms x = threeGroups();
            x.startGame();
            s.is("a game", x.count(14), 1);
            s.is("its players", x.game(0), 1);
            s.is("its start", x.game(1), 10);
            s.is("groups that wait", x.count(3), 2);
            s.is("the next one", x.group(0, 0), 2);
            s.is("no result yet", x.count(7), 0);
        });
        s.test(12, "Returns how many minutes later it starts than wanted", () -> {
            ResetRooms x = threeGroups();
            s.is("not late", x.startGame(), 0);
            x.rest(11);
            x.giveUp();
            s.is("a minute late", x.startGame(), 1);
            x.rest(9);
            x.giveUp();
            s.is("at its minute", x.startGame(), 0);
            x.giveUp();
            x.idle(1000);
            x.book(1, 0);
            s.is("1030 minutes late", x.startGame(), 1030);
        });
        String reasons = "NOT_POSSIBLE during a game, if no group waits, or if there is no exit or it is open";
        s.refused(12, reasons, "during a game", () -> {
            ResetRooms x = threeGroups();
            x.startGame();
            return x;
        }, ResetRooms::startGame, Due.NOT_POSSIBLE);
        s.refused(12, reasons, "no group waits", Rooms::house, ResetRooms::startGame, Due.NOT_POSSIBLE);
        s.refused(12, reasons, "no exit", GameSentences::noExit, ResetRooms::startGame, Due.NOT_POSSIBLE);
        s.refused(12, reasons, "an open exit", GameSentences::openExit, ResetRooms::startGame, Due.NOT_POSSIBLE);
        s.test(12, reasons, () -> {
            ResetRooms x = openExit();
            x.close(1);
            s.is("the exit is closed again", x.startGame(), 4);
            ResetRooms y = noExit();
            y.setExit(1);
            s.is("an exit is there", y.startGame(), 0);
            ResetRooms z = Rooms.played();
            z.book(1, 0);
            s.is("another box is open", z.startGame(), 10);
        });
    }

    private static ResetRooms noExit() {
        ResetRooms x = new ResetRooms();
        Due.box(x, "0 latch");
        x.book(1, 0);
        return x;
    }

    private static ResetRooms openExit() {
        ResetRooms x = Due.latchRoom();
        Due.play(x, 1);
        x.open(1, 0);
        x.book(1, 1);
        return x;
    }

    private void startErrors() {
        s.refused(12, "FULL if there are 30 results.", "a 31st game", () -> {
            ResetRooms x = Rooms.results(30);
            x.book(1, 5);
            return x;
        }, ResetRooms::startGame, Due.FULL);
        s.test(12, "FULL if there are 30 results.", () -> {
            ResetRooms x = Rooms.results(29);
            x.book(1, 5);
            s.is("a 30th game", x.startGame(), 0);
        });
        s.refused(12, START_ERRORS, "30 results, no group", () -> Rooms.results(30), ResetRooms::startGame, Due.NOT_POSSIBLE);
        s.refused(12, START_ERRORS, "30 results, an open exit", () -> {
            ResetRooms x = Rooms.results(29);
            Due.play(x, 1);
            x.open(1, 0);
            x.book(1, 5);
            return x;
        }, ResetRooms::startGame, Due.NOT_POSSIBLE);
    }

    private void take() {
        s.test(13, "Takes a prop.", () -> {
            ResetRooms x = Rooms.game(2);
            x.take(1);
            s.is("where it lies", x.prop(1, 1), Due.NONE);
            s.is("what is held", x.game(4), 2);
            s.is("props in the room", x.box(0, 4), 1);
        });
        s.test(13, "a prop", () -> {
            ResetRooms x = Rooms.inked(24, 0);
            Due.play(x, 2);
            s.is("the first prop", x.take(0), 1);
            s.is("the last prop", x.take(23), 2);
        });
        isAct(13, () -> Rooms.game(1), x -> x.take(0), 3, "take 0");
        s.test(13, "Returns how many props the group holds then", () -> {
            ResetRooms x = Rooms.inked(6, 0);
            Due.play(x, 6);
            for (int prop = 0; prop < 6; prop++) {
                s.is("take(" + prop + ")", x.take(prop), prop + 1);
            }
            x.lay(2, 0);
            x.lay(3, 0);
            s.is("after two were laid", x.take(3), 5);
        });
        for (int prop : new int[] {3, -1, Integer.MAX_VALUE, Integer.MIN_VALUE}) {
            s.refused(13, "UNKNOWN", "take(" + prop + ")", () -> Rooms.game(1), x -> x.take(prop), Due.UNKNOWN);
        }
        String reasons = "NOT_POSSIBLE if there is no game, or the prop is held or not at hand";
        s.refused(13, reasons, "no game", Rooms::house, x -> x.take(0), Due.NOT_POSSIBLE);
        s.refused(13, reasons, "a held prop", () -> holding(2), x -> x.take(0), Due.NOT_POSSIBLE);
        s.refused(13, reasons, "a prop in a closed box", () -> Rooms.game(2), x -> x.take(2), Due.NOT_POSSIBLE);
        s.refused(13, "FULL if the group holds as many as it can", "a second prop for 1", () -> holding(1), x -> x.take(1),
                Due.FULL);
        s.test(13, "FULL if the group holds as many as it can", () -> {
            for (int players = 1; players <= 6; players++) {
                ResetRooms x = Rooms.inked(7, 0);
                Due.play(x, players);
                for (int prop = 0; prop < players; prop++) {
                    s.is("take(" + prop + ") by " + players, x.take(prop), prop + 1);
                }
                s.is("one more by " + players, x.take(6), Due.FULL);
                x.lay(0, 0);
                s.is("with a free hand", x.take(6), players);
            }
        });
        s.refused(13, TAKE_ERRORS, "an unknown prop without a game", Rooms::house, x -> x.take(3), Due.UNKNOWN);
        s.refused(13, TAKE_ERRORS, "an unknown prop with full hands", () -> holding(1), x -> x.take(3), Due.UNKNOWN);
        s.refused(13, TAKE_ERRORS, "an unknown prop without time", () -> Rooms.gameWith(1, 0), x -> x.take(3), Due.UNKNOWN);
        s.refused(13, TAKE_ERRORS, "a held prop with full hands", () -> holding(1), x -> x.take(0), Due.NOT_POSSIBLE);
        s.refused(13, TAKE_ERRORS, "not at hand, full hands", () -> holding(1), x -> x.take(2), Due.NOT_POSSIBLE);
        s.refused(13, TAKE_ERRORS, "not at hand, no time", () -> Rooms.gameWith(1, 0), x -> x.take(2), Due.NOT_POSSIBLE);
        s.refused(13, TAKE_ERRORS, "held, no time", () -> late(holding(2)), x -> x.take(0), Due.NOT_POSSIBLE);
        s.refused(13, TAKE_ERRORS, "full hands, no time", () -> late(holding(1)), x -> x.take(1), Due.FULL);
    }

    /** A game in which the prop 0 is held. */
    private static ResetRooms holding(int players) {
        ResetRooms x = Rooms.game(players);
        x.take(0);
        return x;
    }

    /** No minute of the game is left. */
    private static ResetRooms late(ResetRooms x) {
        Rooms.pass(x, x.game(2));
        return x;
    }

    private void lay() {
        s.test(14, "Lays a prop into a box.", () -> {
            ResetRooms x = holding(1);
            x.open(1, 0);
            x.lay(0, 1);
            s.is("where it lies", x.prop(0, 1), 1);
            s.is("what is held", x.game(4), 0);
            s.is("props in the box", x.box(1, 4), 2);
            s.is("its home stays", x.prop(0, 0), 0);
        });
        s.test(14, "a prop", () -> {
            ResetRooms x = Rooms.inked(24, 0);
            Due.play(x, 2);
            x.take(0);
            x.take(23);
            s.is("the first prop", x.lay(0, 0), 1);
            s.is("the last prop", x.lay(23, 0), 0);
        });
        s.test(14, "a box", () -> {
            ResetRooms x = holding(1);
            s.is("the room", x.lay(0, 0), 0);
            x.take(1);
            x.lay(1, 0);
            x.open(4, 0);
            x.take(0);
            s.is("the last box", x.lay(0, 4), 0);
            s.is("where it lies", x.prop(0, 1), 4);
        });
        isAct(14, () -> holding(1), x -> x.lay(0, 0), 2, "lay 0 0");
        s.test(14, "Returns how many props the group holds then", () -> {
            ResetRooms x = Rooms.inked(6, 0);
            Due.play(x, 6);
            for (int prop = 0; prop < 6; prop++) {
                x.take(prop);
            }
            for (int prop = 0; prop < 6; prop++) {
                s.is("lay(" + prop + ", 0)", x.lay(prop, 0), 5 - prop);
            }
        });
    }

    private void layErrors() {
        for (int number : FAR_NUMBERS) {
            s.refused(14, "UNKNOWN", "lay(" + number + ", 0)", () -> holding(1), x -> x.lay(number, 0), Due.UNKNOWN);
            s.refused(14, "UNKNOWN", "lay(0, " + number + ")", () -> holding(1), x -> x.lay(0, number), Due.UNKNOWN);
        }
        s.refused(14, "UNKNOWN", "lay(3, 0)", () -> holding(1), x -> x.lay(3, 0), Due.UNKNOWN);
        s.refused(14, "UNKNOWN", "lay(0, 5)", () -> holding(1), x -> x.lay(0, 5), Due.UNKNOWN);
        String reasons = "NOT_POSSIBLE if there is no game, the prop is not held, or the box is not open or not at hand";
        s.refused(14, reasons, "no game", Rooms::house, x -> x.lay(0, 0), Due.NOT_POSSIBLE);
        s.refused(14, reasons, "a prop that is not held", () -> holding(1), x -> x.lay(1, 0), Due.NOT_POSSIBLE);
        s.refused(14, reasons, "a prop that is not at hand", () -> holding(1), x -> x.lay(2, 0), Due.NOT_POSSIBLE);
        s.refused(14, reasons, "into a closed box", () -> holding(1), x -> x.lay(0, 4), Due.NOT_POSSIBLE);
        s.refused(14, reasons, "into a closed box in a closed one", () -> holding(1), x -> x.lay(0, 2), Due.NOT_POSSIBLE);
        s.refused(14, reasons, "into an open box in a closed one", GameSentences::openInClosed, x -> x.lay(0, 2),
                Due.NOT_POSSIBLE);
        s.refused(14, reasons, "into the closed one around it", GameSentences::openInClosed, x -> x.lay(0, 1), Due.NOT_POSSIBLE);
        s.test(14, reasons, () -> {
            ResetRooms x = openInClosed();
            x.open(1, 0);
            s.is("into an open box in an open one", x.lay(0, 2), 0);
        });
        s.refused(14, LAY_ERRORS, "an unknown prop without a game", Rooms::house, x -> x.lay(3, 0), Due.UNKNOWN);
        s.refused(14, LAY_ERRORS, "an unknown box without a game", Rooms::house, x -> x.lay(0, 5), Due.UNKNOWN);
        s.refused(14, LAY_ERRORS, "an unknown box, not held", () -> holding(1), x -> x.lay(1, 5), Due.UNKNOWN);
        s.refused(14, LAY_ERRORS, "an unknown prop, a closed box", () -> holding(1), x -> x.lay(3, 4), Due.UNKNOWN);
        s.refused(14, LAY_ERRORS, "an unknown prop without time", () -> late(holding(1)), x -> x.lay(3, 0), Due.UNKNOWN);
        s.refused(14, LAY_ERRORS, "not held, no time", () -> late(holding(1)), x -> x.lay(1, 0), Due.NOT_POSSIBLE);
        s.refused(14, LAY_ERRORS, "a closed box, no time", () -> late(holding(1)), x -> x.lay(0, 4), Due.NOT_POSSIBLE);
    }

    /** A game in which the prop 0 is held, the box 2 is open and the box 1 around it is closed. */
    private static ResetRooms openInClosed() {
        ResetRooms x = Rooms.game(1);
        x.open(1, 0);
        x.take(0);
        x.open(2, 0);
        x.giveUp();
        x.close(1);
        Due.play(x, 1);
        x.take(0);
        return x;
    }

    private void open() {
        s.test(15, "Opens a box.", () -> {
            ResetRooms x = Rooms.game(1);
            x.open(1, 0);
            s.is("it is open", x.box(1, 2), 1);
            s.is("other boxes are not", x.box(2, 2) + x.box(3, 2) + x.box(4, 2), 0);
            s.is("what lies in it is at hand", x.prop(2, 2), 1);
        });
        isAct(15, () -> Rooms.game(1), x -> x.open(1, 0), 4, "open 1");
        isAct(15, () -> Rooms.game(1), x -> x.open(3, 1), 8, "open 3");
        s.test(15, "With a wrong code it takes twice the minutes (twice what is left by the number of players).", () -> {
            int[] minutes = {8, 6, 6, 4, 4, 2};
            for (int players = 1; players <= 6; players++) {
                ResetRooms x = Rooms.game(players);
                x.open(3, 9999);
                s.is("a wrong code by " + players, x.count(5), minutes[players - 1]);
                x.open(3, 417);
                s.is("the code by " + players, x.count(5), minutes[players - 1] * 3 / 2);
            }
        });
        s.test(15, "a box", () -> {
            ResetRooms x = Rooms.latches(11);
            Due.play(x, 1);
            s.is("the first further one", x.open(1, 0), 1);
            s.is("the last one", x.open(11, 0), 2);
        });
        s.test(15, "any number; it counts for a lock with a code alone", () -> {
            int[] codes = {417, 0, -1, Integer.MAX_VALUE, Integer.MIN_VALUE};
            for (int code : codes) {
                ResetRooms x = holding(1);
                s.is("a latch", x.open(1, code), 1);
                s.is("a key", x.open(2, code), 1);
                s.is("a plate", x.open(4, code), 1);
                s.is("a code", x.open(3, code), code == 417 ? 2 : 0);
            }
        });
        s.test(15, "Returns 1 if it is opened, 2 if it is opened and is the exit (the game ends, won), 0 if the code is wrong",
                () -> {
            ResetRooms x = Rooms.game(1);
            s.is("a box", x.open(1, 0), 1);
            s.is("a wrong code", x.open(3, 416), 0);
            s.is("it stays closed", x.box(3, 2), 0);
            s.is("wrong codes", x.game(5), 1);
            s.is("the game goes on", x.count(14), 1);
            s.is("the exit", x.open(3, 417), 2);
            s.is("it is open", x.box(3, 2), 1);
            s.is("the game ends", x.count(14), 0);
            s.is("won", x.result(0, 4), 1);
        });
        s.test(15, "0 if the code is wrong", () -> {
            int[] wrong = {416, 418, 4170, 10417, 41, 17, -417, 0, 417 + 65536, Integer.MAX_VALUE, Integer.MIN_VALUE};
            for (int code : wrong) {
                s.is("open(3, " + code + ")", Rooms.game(1).open(3, code), 0);
            }
            ResetRooms x = Rooms.of("0 code 0000", "0 code 9999");
            Due.play(x, 6);
            s.is("0 for 0000", x.open(1, 0), 1);
            s.is("9999", x.open(2, 9999), 2);
        });
    }

    private void openErrors() {
        for (int box : new int[] {5, -1, Integer.MAX_VALUE, Integer.MIN_VALUE}) {
            s.refused(15, "UNKNOWN", "open(" + box + ", 0)", () -> Rooms.game(1), x -> x.open(box, 0), Due.UNKNOWN);
        }
        s.refused(15, OPEN_REASONS, "no game", Rooms::house, x -> x.open(1, 0), Due.NOT_POSSIBLE);
        s.refused(15, OPEN_REASONS, "the room", () -> Rooms.game(1), x -> x.open(0, 0), Due.NOT_POSSIBLE);
        s.refused(15, OPEN_REASONS, "an open box", () -> opened(1), x -> x.open(1, 0), Due.NOT_POSSIBLE);
        s.refused(15, OPEN_REASONS, "not at hand", () -> holding(1), x -> x.open(2, 0), Due.NOT_POSSIBLE);
        s.refused(15, OPEN_REASONS, "open and not at hand", GameSentences::openInClosed, x -> x.open(2, 0), Due.NOT_POSSIBLE);
        s.refused(15, OPEN_REASONS, "its key is not held", () -> opened(1), x -> x.open(2, 0), Due.NOT_POSSIBLE);
        s.refused(15, OPEN_REASONS, "another prop is held", () -> {
            ResetRooms x = opened(1);
            x.take(1);
            return x;
        }, x -> x.open(2, 0), Due.NOT_POSSIBLE);
        s.refused(15, OPEN_REASONS, "its key lies in its outer box", () -> {
            ResetRooms x = opened(1);
            x.take(0);
            x.lay(0, 1);
            return x;
        }, x -> x.open(2, 0), Due.NOT_POSSIBLE);
        s.refused(15, OPEN_REASONS, "the prop of its plate is held", () -> {
            ResetRooms x = opened(1);
            x.take(1);
            return x;
        }, x -> x.open(4, 0), Due.NOT_POSSIBLE);
        s.refused(15, OPEN_REASONS, "the prop of its plate lies in another box", () -> {
            ResetRooms x = opened(1);
            x.take(1);
            x.lay(1, 1);
            return x;
        }, x -> x.open(4, 0), Due.NOT_POSSIBLE);
        s.refused(15, OPEN_REASONS, "an open box with a code that is wrong", GameSentences::openCode, x -> x.open(3, 1),
                Due.NOT_POSSIBLE);
        s.refused(15, OPEN_ERRORS, "unknown without a game", Rooms::house, x -> x.open(5, 0), Due.UNKNOWN);
        s.refused(15, OPEN_ERRORS, "unknown without time", () -> Rooms.gameWith(1, 0), x -> x.open(5, 0), Due.UNKNOWN);
        s.refused(15, OPEN_ERRORS, "open, no time", () -> late(opened(1)), x -> x.open(1, 0), Due.NOT_POSSIBLE);
        s.refused(15, OPEN_ERRORS, "not at hand, no time", () -> Rooms.gameWith(1, 0), x -> x.open(2, 0), Due.NOT_POSSIBLE);
        s.refused(15, OPEN_ERRORS, "key not held, no time", () -> late(opened(1)), x -> x.open(2, 0), Due.NOT_POSSIBLE);
    }

    private static ResetRooms opened(int players) {
        ResetRooms x = Rooms.game(players);
        x.open(1, 0);
        return x;
    }

    /** A game in which the box 3 with the code is open, for the exit is another one. */
    private static ResetRooms openCode() {
        ResetRooms x = Rooms.house();
        x.setExit(4);
        Due.play(x, 1);
        x.open(3, 417);
        return x;
    }

    private void read() {
        s.test(16, "Reads a clue: the group knows the digit then, and the clue loses a unit of ink.", () -> {
            ResetRooms x = Rooms.game(1);
            x.read(0);
            s.is("what it knows", x.box(3, 7), 2);
            s.is("what it knows of another box", x.box(1, 7), 0);
            s.is("the ink", x.clue(0, 3), 8);
            s.is("the ink of another clue", x.clue(1, 3), 9);
            x.read(0);
            s.is("it is known still", x.box(3, 7), 2);
            s.is("the ink", x.clue(0, 3), 7);
        });
        s.test(16, "the group knows the digit then", () -> {
            for (int place = 0; place < 4; place++) {
                ResetRooms x = Rooms.inked(1, 4);
                Due.play(x, 1);
                x.read(place);
                s.is("the place " + place, x.box(1, 7), 1 << place);
                x.read(3 - place);
                s.is("and the place " + (3 - place), x.box(1, 7), 1 << place | 1 << 3 - place);
            }
        });
        isAct(16, () -> Rooms.game(1), x -> x.read(0), 3, "read 0");
        isAct(16, () -> pale(3, 1), x -> x.read(0), 6, "read 0");
        s.test(16, "With 3 units of ink or less (ahead of that) it takes twice the minutes (as open()).", () -> {
            int[] minutes = {3, 2, 2, 1, 1, 1};
            for (int players = 1; players <= 6; players++) {
                for (int ink = 1; ink <= 9; ink++) {
                    ResetRooms x = pale(ink, players);
                    int before = x.count(5);
                    s.is("the digit", x.read(0), 5);
                    s.is("minutes by " + players + " with " + ink, x.count(5) - before,
                            minutes[players - 1] * (ink <= 3 ? 2 : 1));
                }
            }
        });
        s.test(16, "a clue", () -> {
            ResetRooms x = Rooms.inked(1, 12);
            Due.play(x, 1);
            s.is("the first one", x.read(0), 5);
            s.is("the last one", x.read(11), 8);
        });
        s.test(16, "Returns the digit", () -> {
            ResetRooms x = Rooms.of("0 code 0918");
            x.addProp(0);
            for (int place = 0; place < 4; place++) {
                x.addClue(0, 1, place);
            }
            Due.play(x, 1);
            int[] digits = {0, 9, 1, 8};
            for (int place = 0; place < 4; place++) {
                s.is("read(" + place + ")", x.read(place), digits[place]);
            }
            s.is("a digit that is known", x.read(1), 9);
        });
    }

    /** A game in a room whose clue, for the place 0 of the code 5678, has so much ink. */
    private static ResetRooms pale(int ink, int players) {
        ResetRooms x = Rooms.inked(1, 1);
        if (ink < 9) {
            x.idle(60 * (9 - ink));
        }
        Due.play(x, players);
        return x;
    }

    private void readErrors() {
        for (int clue : new int[] {2, -1, Integer.MAX_VALUE, Integer.MIN_VALUE}) {
            s.refused(16, "UNKNOWN", "read(" + clue + ")", () -> Rooms.game(1), x -> x.read(clue), Due.UNKNOWN);
        }
        String reasons = "NOT_POSSIBLE if there is no game, or the clue is not at hand";
        s.refused(16, reasons, "no game", Rooms::house, x -> x.read(0), Due.NOT_POSSIBLE);
        s.refused(16, reasons, "not at hand", () -> Rooms.game(1), x -> x.read(1), Due.NOT_POSSIBLE);
        s.refused(16, "NONE if it has no ink", "no ink", () -> pale(0, 1), x -> x.read(0), Due.NONE);
        s.test(16, "NONE if it has no ink", () -> {
            ResetRooms x = pale(1, 1);
            s.is("the last unit", x.read(0), 5);
            s.is("no ink", x.read(0), Due.NONE);
            s.is("what was read is known", x.box(1, 7), 1);
        });
        s.refused(16, READ_ERRORS, "unknown without a game", Rooms::house, x -> x.read(2), Due.UNKNOWN);
        s.refused(16, READ_ERRORS, "unknown without time", () -> Rooms.gameWith(1, 0), x -> x.read(2), Due.UNKNOWN);
        s.refused(16, READ_ERRORS, "no ink without a game", () -> {
            ResetRooms x = Rooms.house();
            x.idle(600);
            return x;
        }, x -> x.read(0), Due.NOT_POSSIBLE);
        s.refused(16, READ_ERRORS, "no ink, not at hand", GameSentences::blankInBox, x -> x.read(1), Due.NOT_POSSIBLE);
        s.refused(16, READ_ERRORS, "not at hand, no time", () -> Rooms.gameWith(1, 0), x -> x.read(1), Due.NOT_POSSIBLE);
        s.refused(16, READ_ERRORS, "no ink, no time", () -> late(pale(0, 1)), x -> x.read(0), Due.NONE);
    }

    /** A game in which the clue 1 in the closed box 1 has no ink. */
    private static ResetRooms blankInBox() {
        ResetRooms x = opened(1);
        x.giveUp();
        x.idle(600);
        x.close(1);
        Due.play(x, 1);
        return x;
    }

    private void rest() {
        s.test(17, "Lets the group rest.", () -> {
            ResetRooms x = Rooms.game(1);
            x.rest(5);
            s.is("the clock", x.count(5), 5);
            s.is("the game goes on", x.count(14), 1);
        });
        isAct(17, () -> Rooms.game(1), x -> x.rest(1), 1, "rest 1");
        isAct(17, () -> Rooms.game(6), x -> x.rest(60), 60, "rest 60");
        s.test(17, "1 to 60", () -> {
            s.is("rest(1)", Rooms.game(1).rest(1), 59);
            s.is("rest(60)", Rooms.game(1).rest(60), 0);
            ResetRooms x = Rooms.house();
            x.setLimits(120, 3);
            Due.play(x, 1);
            s.is("rest(60) of 120", x.rest(60), 60);
        });
        s.test(17, "Returns how many minutes the game can still last", () -> {
            ResetRooms x = Rooms.house();
            x.setLimits(77, 3);
            x.idle(9);
            Due.play(x, 1);
            s.is("rest(7)", x.rest(7), 70);
            s.is("rest(60)", x.rest(60), 10);
            s.is("rest(10)", x.rest(10), 0);
            s.is("the game goes on", x.count(14), 1);
        });
        for (int minutes : new int[] {0, -1, 61, Integer.MAX_VALUE, Integer.MIN_VALUE}) {
            s.refused(17, "BAD_VALUE", "rest(" + minutes + ")", () -> Rooms.game(1), x -> x.rest(minutes), Due.BAD_VALUE);
        }
        s.refused(17, "NOT_POSSIBLE if there is no game", "no game", Rooms::house, x -> x.rest(1), Due.NOT_POSSIBLE);
        s.refused(17, "NOT_POSSIBLE if there is no game", "after a game", Rooms::played, x -> x.rest(1), Due.NOT_POSSIBLE);
        s.refused(17, REST_ERRORS, "0 without a game", Rooms::house, x -> x.rest(0), Due.BAD_VALUE);
        s.refused(17, REST_ERRORS, "61 without a game", Rooms::house, x -> x.rest(61), Due.BAD_VALUE);
        s.refused(17, REST_ERRORS, "61 without time", () -> Rooms.gameWith(1, 0), x -> x.rest(61), Due.BAD_VALUE);
    }

    private void nudge() {
        s.test(18, "Asks the master for the next step for the exit; if the master tells a digit, the group knows it then.", () -> {
            ResetRooms x = Rooms.game(1);
            s.is("the digit at the place 0", x.nudge(), 500);
            s.is("it is known", x.box(3, 7), 1);
            s.is("a clue to be read", x.nudge(), 400);
            s.is("its digit is not known by that", x.box(3, 7), 1);
            s.is("its ink stays", x.clue(0, 3), 9);
            x.read(0);
            s.is("the digit at the place 2", x.nudge(), 502);
            s.is("it is known", x.box(3, 7), 7);
            s.is("nudges", x.game(3), 3);
        });
        s.test(18, "if the master tells a digit, the group knows it then", () -> {
            ResetRooms x = Rooms.of("0 code 1234");
            x.addProp(1);
            Due.box(x, "0 code 5678");
            Due.box(x, "0 key 0");
            x.setExit(3);
            Due.play(x, 1);
            s.is("a digit of the box around the key", x.nudge(), 500);
            s.is("it is known", x.box(1, 7), 1);
            s.is("nothing of another box", x.box(2, 7), 0);
        });
        s.test(18, "if the master tells a digit, the group knows it then", () -> {
            ResetRooms x = Rooms.of("0 code 1234");
            x.addProp(0);
            Due.box(x, "1 plate 0");
            x.addClue(0, 1, 0);
            x.setExit(2);
            x.setLimits(60, 9);
            Due.play(x, 1);
            s.is("a clue to be read", x.nudge(), 400);
            x.open(1, 1234);
            s.is("a prop to be taken", x.nudge(), 100);
            x.take(0);
            s.is("a prop to be laid in the box 1", x.nudge(), 1200);
            x.lay(0, 1);
            s.is("a box to be opened", x.nudge(), 302);
            s.is("no digit is known by all this", x.box(0, 7) + x.box(1, 7) + x.box(2, 7), 0);
        });
        isAct(18, () -> Rooms.game(1), ResetRooms::nudge, 2, "nudge 500");
        isAct(18, () -> Rooms.game(6), ResetRooms::nudge, 2, "nudge 500");
        s.test(18, "TIME_OVER", () -> {
            ResetRooms x = Rooms.gameWith(1, 1);
            s.is("too late", x.nudge(), Due.TIME_OVER);
            s.is("nudges of the result", x.result(0, 5), 0);
        });
        s.test(18, "Returns the step", () -> {
            ResetRooms x = Rooms.house();
            x.setExit(2);
            x.setLimits(60, 9);
            Due.play(x, 1);
            s.is("the box 1", x.nudge(), 301);
            x.open(1, 0);
            s.is("the prop 0", x.nudge(), 100);
            x.take(1);
            s.is("lay the prop 1", x.nudge(), 201);
            s.is("as often as it is asked", x.nudge(), 201);
            s.is("as the next step", x.nextStep(), 201);
        });
    }

    private void nudgeErrors() {
        s.refused(18, "NOT_POSSIBLE if there is no game", "no game", Rooms::house, ResetRooms::nudge, Due.NOT_POSSIBLE);
        s.refused(18, "FULL if the master was asked as often as can be", "a fourth nudge", () -> asked(3), ResetRooms::nudge,
                Due.FULL);
        s.refused(18, "FULL if the master was asked as often as can be", "no nudges", () -> nudges(0), ResetRooms::nudge,
                Due.FULL);
        s.test(18, "FULL if the master was asked as often as can be", () -> {
            for (int nudges = 0; nudges <= 9; nudges++) {
                ResetRooms x = nudges(nudges);
                for (int i = 0; i < nudges; i++) {
                    s.is("a nudge of " + nudges, x.nudge() > 0 ? 1 : 0, 1);
                }
                s.is("one more than " + nudges, x.nudge(), Due.FULL);
                x.giveUp();
                Due.play(x, 1);
                s.is("in the next game", x.nudge(), nudges == 0 ? Due.FULL : 500);
            }
        });
        s.refused(18, "NONE if there is no step", "no step", () -> Rooms.circle(1), ResetRooms::nudge, Due.NONE);
        s.refused(18, NUDGE_ERRORS, "no game, no nudges", () -> {
            ResetRooms x = Rooms.house();
            x.setLimits(60, 0);
            return x;
        }, ResetRooms::nudge, Due.NOT_POSSIBLE);
        s.refused(18, NUDGE_ERRORS, "no step, no nudges", () -> {
            ResetRooms x = Rooms.circle(1);
            x.giveUp();
            x.setLimits(60, 0);
            Due.play(x, 1);
            return x;
        }, ResetRooms::nudge, Due.FULL);
        s.refused(18, NUDGE_ERRORS, "no nudges, no time", () -> late(asked(3)), ResetRooms::nudge, Due.FULL);
        s.refused(18, NUDGE_ERRORS, "no step, no time", () -> late(Rooms.circle(1)), ResetRooms::nudge, Due.NONE);
        s.refused(18, NUDGE_ERRORS, "no step, no game", () -> {
            ResetRooms x = Rooms.circle(1);
            x.giveUp();
            return x;
        }, ResetRooms::nudge, Due.NOT_POSSIBLE);
    }

    private static ResetRooms asked(int nudges) {
        ResetRooms x = Rooms.game(1);
        for (int i = 0; i < nudges; i++) {
            x.nudge();
        }
        return x;
    }

    /** A game in which the master can be asked so often. */
    private static ResetRooms nudges(int nudges) {
        ResetRooms x = Rooms.house();
        x.setLimits(60, nudges);
        Due.play(x, 1);
        return x;
    }

    private void giveUp() {
        s.test(19, "The group gives up; the game ends, lost.", () -> {
            ResetRooms x = holding(1);
            x.read(0);
            x.giveUp();
            s.is("no game", x.count(14), 0);
            s.is("results", x.count(7), 1);
            s.is("lost", x.result(0, 4), 0);
            s.is("games that were won", x.count(8), 0);
            s.is("what was held lies in the room", x.prop(0, 1), 0);
            s.is("nothing is known", x.box(3, 7), 0);
            s.is("the clock stands", x.count(5), 6);
        });
        s.test(19, "Returns how many minutes the game lasted", () -> {
            s.is("none", Rooms.game(1).giveUp(), 0);
            ResetRooms x = Rooms.house();
            x.idle(1);
            Due.play(x, 1);
            x.rest(31);
            s.is("31", x.giveUp(), 31);
            s.is("minutes of the result", x.result(0, 3), 31);
            s.is("at the last minute", Rooms.gameWith(1, 0).giveUp(), 60);
        });
        s.refused(19, "NOT_POSSIBLE if there is no game.", "no game", Rooms::house, ResetRooms::giveUp, Due.NOT_POSSIBLE);
        s.refused(19, "NOT_POSSIBLE if there is no game.", "after a game", Rooms::played, ResetRooms::giveUp, Due.NOT_POSSIBLE);
    }
}
