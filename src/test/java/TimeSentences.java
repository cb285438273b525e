import java.util.function.ToIntFunction;

/** The sentences of the terms on time and games. */
final class TimeSentences {
    private static final String FADE = "When minutes pass, each clue that is at hand then loses a unit of ink"
            + " (as long as it has one) for each full hour (60, 120, 180 and so on) that the clock comes to or passes.";
    private static final String MINUTES = "What is meant by an act of the group below takes minutes: to take a prop 3,"
            + " to lay one 2, to open a box 4, to read a clue 3, each less half the number of its players (rounded"
            + " down), but at least 1; a nudge 2; a rest as many as are told.";
    private static final String OVER = "If the minutes of an act would end behind the last minute of the game, the game"
            + " is over: the minutes until its last one pass, the act is not done, the group has lost, and TIME_OVER is"
            + " returned.";

    private final Sentences s;

    TimeSentences(Sentences s) {
        this.s = s;
    }

    void run() {
        clock();
        fullHours();
        atHandThen();
        minutesThatPass();
        groups();
        limits();
        hands();
        minutesOfActs();
        overByTime();
        ends();
    }

    private void terms(String quote, Runnable calls) {
        s.test(Sentences.TERMS, quote, calls);
    }

    private void clock() {
        terms("The clock counts minutes, from 0.", () -> {
            ResetRooms x = Rooms.house();
            s.is("at first", x.count(5), 0);
            s.is("a minute later", x.idle(1), 1);
            s.is("1000 minutes later", x.idle(1000), 1001);
            s.is("the clock", x.count(5), 1001);
        });
    }

    private void fullHours() {
        terms(FADE, () -> {
            ResetRooms x = Rooms.inked(1, 1);
            s.is("the minute 0 is no full hour to come to", x.clue(0, 3), 9);
            x.idle(59);
            s.is("at 59", x.clue(0, 3), 9);
            x.idle(1);
            s.is("it comes to 60", x.clue(0, 3), 8);
            x.idle(1);
            s.is("it leaves 60", x.clue(0, 3), 8);
            x.idle(60);
            s.is("it passes 120", x.clue(0, 3), 7);
            x.idle(58);
            s.is("at 179", x.clue(0, 3), 7);
            x.idle(1);
            s.is("it comes to 180", x.clue(0, 3), 6);
        });
        terms(FADE, () -> {
            ResetRooms x = Rooms.inked(1, 1);
            x.idle(1);
            x.idle(179);
            s.is("it passes 60 and 120 and comes to 180", x.clue(0, 3), 6);
            x.idle(119);
            s.is("it passes 240 alone", x.clue(0, 3), 5);
            x.idle(2);
            s.is("it passes 300", x.clue(0, 3), 4);
            x.idle(239);
            s.is("it comes to 540", x.clue(0, 3), 0);
            x.idle(60);
            s.is("no ink to lose", x.clue(0, 3), 0);
        });
        terms(FADE, () -> {
            ResetRooms x = Rooms.inked(1, 1);
            x.idle(1000);
            s.is("16 full hours at once", x.clue(0, 3), 0);
            ResetRooms y = Rooms.inked(2, 2);
            y.idle(120);
            y.addClue(1, 1, 0);
            y.idle(60);
            s.is("each clue loses its own", y.clue(0, 3) * 100 + y.clue(1, 3) * 10 + y.clue(2, 3), 668);
        });
    }

    private void atHandThen() {
        terms(FADE, () -> {
            ResetRooms x = Rooms.house();
            x.idle(60);
            s.is("at hand", x.clue(0, 3), 8);
            s.is("in a closed box", x.clue(1, 3), 9);
        });
        terms(FADE, () -> {
            ResetRooms x = Rooms.house();
            x.idle(59);
            Due.play(x, 6);
            x.open(1, 0);
            s.is("at hand by the act whose minute comes to 60", x.clue(1, 3), 8);
        });
        terms(FADE, () -> {
            ResetRooms x = Rooms.game(6);
            x.open(1, 0);
            x.take(2);
            x.rest(58);
            s.is("held at 60", x.clue(1, 3), 8);
            s.is("in the room at 60", x.clue(0, 3), 8);
        });
        terms(FADE, () -> {
            ResetRooms x = Rooms.game(6);
            x.open(1, 0);
            x.rest(58);
            x.giveUp();
            x.close(1);
            s.is("the clock", x.count(5), 60);
            s.is("no longer at hand when the minute passes in which its box is closed", x.clue(1, 3), 9);
        });
        terms(FADE, () -> {
            ResetRooms x = Rooms.played();
            x.close(1);
            x.idle(48);
            x.putHome(2);
            s.is("the clock", x.count(5), 60);
            s.is("no longer at hand when the minute passes in which its prop is brought home", x.clue(1, 3), 9);
        });
        terms(FADE, () -> {
            ResetRooms x = Rooms.of("0 latch", "1 latch", "0 code 1234");
            x.addProp(2);
            x.addClue(0, 3, 0);
            Due.play(x, 1);
            x.open(1, 0);
            x.open(2, 0);
            x.giveUp();
            x.close(1);
            x.idle(100);
            s.is("in an open box in a closed one", x.clue(0, 3), 9);
        });
    }

    /** All that lets minutes pass does it over a full hour. */
    private void minutesThatPass() {
        overTheHour("take", 58, x -> x.take(1), 8);
        overTheHour("lay", 56, x -> x.take(1) + x.lay(1, 0), 8);
        overTheHour("open", 57, x -> x.open(1, 0), 8);
        overTheHour("open with a wrong code", 53, x -> x.open(3, 0), 8);
        overTheHour("read of the clue itself", 58, x -> x.read(0), 7);
        overTheHour("rest", 1, x -> x.rest(59), 8);
        overTheHour("nudge", 59, x -> x.nudge(), 8);
        overTheHour("an act by which the game is over by time", 40, x -> x.rest(18) + x.rest(60), 8);
        terms("(the minutes until then pass)", () -> {
            ResetRooms x = Rooms.house();
            x.idle(59);
            x.book(1, 121);
            x.startGame();
            s.is("the start passes 60 and 120", x.clue(0, 3), 7);
        });
        terms(FADE, () -> {
            ResetRooms x = Rooms.played();
            x.idle(49);
            x.close(1);
            s.is("close", x.clue(0, 3), 8);
            x.idle(59);
            x.putHome(2);
            s.is("putHome", x.clue(0, 3), 7);
            x.idle(59);
            x.addPaint(3);
            x.writeOver(0);
            s.is("the clue itself is written over, then it fades", x.clue(0, 3), 8);
            x.idle(400);
            x.addPaint(9);
            s.is("the clock", x.count(5), 580);
            s.is("the clue at 580", x.clue(0, 3), 2);
            x.idle(19);
            s.is("reset", x.reset(), 1);
            s.is("a reset, the clue fades behind it", x.clue(0, 3), 8);
        });
    }

    /** A clue at hand has some ink less when calls in a game that begins with this minute pass the minute 60. */
    private void overTheHour(String what, int minute, ToIntFunction<ResetRooms> calls, int ink) {
        terms(FADE, () -> {
            ResetRooms x = Rooms.house();
            x.idle(minute);
            Due.play(x, 1);
            s.is("ink ahead of " + what, x.clue(0, 3), 9);
            calls.applyAsInt(x);
            s.is("the clock is at 60 or behind after " + what, x.count(5) >= 60 ? 1 : 0, 1);
            s.is("ink after " + what, x.clue(0, 3), ink);
        });
    }

    private void groups() {
        terms("Up to 8 groups are booked, each with a number of players and a minute at which it wants to start;", () -> {
            ResetRooms x = Due.latchRoom();
            for (int group = 0; group < 8; group++) {
                s.is("book", x.book(1 + group % 6, 10 * group), group + 1);
            }
            s.is("a ninth group", x.book(1, 100), Due.FULL);
            for (int group = 0; group < 8; group++) {
                s.is("its players", x.group(group, 0), 1 + group % 6);
                s.is("its minute", x.group(group, 1), 10 * group);
            }
        });
        terms("they play in the order in which they were booked.", () -> {
            ResetRooms x = Due.latchRoom();
            int[] players = {4, 2, 6, 1};
            for (int number : players) {
                x.book(number, 5);
            }
            for (int number : players) {
                x.startGame();
                s.is("the players of the game", x.game(0), number);
                x.giveUp();
            }
        });
        terms("A game starts at the minute of the clock, or at the wanted one if that is later", () -> {
            int[][] starts = {{30, 29, 30, 1}, {30, 30, 30, 0}, {30, 31, 31, 0}, {0, 0, 0, 0}, {7, 0, 7, 7}};
            for (int[] start : starts) {
                ResetRooms x = Due.latchRoom();
                if (start[0] > 0) {
                    x.idle(start[0]);
                }
                x.book(1, start[1]);
                s.is("late", x.startGame(), start[3]);
                s.is("the start", x.game(1), start[2]);
                s.is("the clock", x.count(5), start[2]);
            }
        });
    }

    private void limits() {
        terms("A game can last as many minutes as the limit tells, at first 60, and its master can be asked as often as the"
                + " number of nudges tells, at first 3.", () -> {
            ResetRooms x = Due.latchRoom();
            Due.play(x, 1);
            s.is("minutes at first", x.game(2), 60);
            for (int nudge = 1; nudge <= 3; nudge++) {
                s.is("a nudge", x.nudge(), 301);
            }
            s.is("a fourth nudge", x.nudge(), Due.FULL);
            s.is("until the last minute", x.rest(54), 0);
            s.is("a minute more", x.rest(1), Due.TIME_OVER);
            s.is("minutes of the game", x.result(0, 3), 60);
            x.setLimits(11, 1);
            Due.play(x, 1);
            s.is("minutes by the limit", x.game(2), 11);
            s.is("the only nudge", x.nudge(), 301);
            s.is("a second nudge", x.nudge(), Due.FULL);
            s.is("until the last minute", x.rest(9), 0);
            s.is("a minute more", x.rest(1), Due.TIME_OVER);
            s.is("minutes of the game", x.result(1, 3), 11);
        });
    }

    private void hands() {
        terms("The group holds nothing and knows no digits at first; it can hold as many props as it has players.", () -> {
            for (int players = 1; players <= 6; players++) {
                ResetRooms x = Rooms.inked(7, 1);
                Due.play(x, players);
                s.is("held at first", x.game(4), 0);
                s.is("known at first", x.box(1, 7), 0);
                for (int prop = 0; prop < players; prop++) {
                    s.is("take(" + prop + ") by " + players, x.take(prop), prop + 1);
                }
                s.is("one more by " + players, x.take(players), Due.FULL);
                x.read(0);
                x.nudge();
                s.is("known", x.box(1, 7), 3);
                x.giveUp();
                Due.play(x, 1);
                s.is("held by the next group", x.game(4), 0);
                s.is("known to the next group", x.box(1, 7), 0);
                s.is("one prop", x.take(0), 1);
                s.is("no second one", x.take(1), Due.FULL);
            }
        });
    }

    private void minutesOfActs() {
        int[][] minutes = {{3, 2, 4, 3}, {2, 1, 3, 2}, {2, 1, 3, 2}, {1, 1, 2, 1}, {1, 1, 2, 1}, {1, 1, 1, 1}};
        for (int i = 1; i <= 6; i++) {
            int players = i;
            int[] due = minutes[i - 1];
            terms(MINUTES, () -> {
                ResetRooms x = Rooms.game(players);
                takes(x, players + " players take", y -> y.take(0), due[0]);
                takes(x, players + " players lay", y -> y.lay(0, 0), due[1]);
                takes(x, players + " players open", y -> y.open(1, 0), due[2]);
                takes(x, players + " players read", y -> y.read(0), due[3]);
                takes(x, players + " players ask", y -> y.nudge(), 2);
                takes(x, players + " players rest for 1", y -> y.rest(1), 1);
                takes(x, players + " players rest for 17", y -> y.rest(17), 17);
                takes(x, players + " players open by code", y -> y.open(3, 417), due[2]);
            });
        }
    }

    private void takes(ResetRooms x, String what, ToIntFunction<ResetRooms> act, int minutes) {
        int before = x.count(5);
        act.applyAsInt(x);
        s.is("minutes: " + what, x.count(5) - before, minutes);
    }

    private void overByTime() {
        atTheEnd("take", 1, x -> x.take(0), 3);
        atTheEnd("take by 6", 6, x -> x.take(0), 1);
        atTheEnd("open", 1, x -> x.open(1, 0), 4);
        atTheEnd("open with the code of the exit", 2, x -> x.open(3, 417), 3);
        atTheEnd("open with a wrong code", 2, x -> x.open(3, 7), 6);
        atTheEnd("read", 3, x -> x.read(0), 2);
        atTheEnd("rest(1)", 1, x -> x.rest(1), 1);
        atTheEnd("rest(60)", 1, x -> x.rest(60), 60);
        atTheEnd("nudge", 6, x -> x.nudge(), 2);
        terms(OVER, () -> {
            for (int left = 2; left >= 1; left--) {
                ResetRooms x = Rooms.game(1);
                x.take(1);
                x.rest(57 - left);
                s.is("lay with " + left + " minutes", x.lay(1, 0), left == 2 ? 0 : Due.TIME_OVER);
                s.is("the log", Due.log(x), "0:take 1/3:rest " + (57 - left) + (left == 2 ? "/58:lay 1 0/" : "/59:over/"));
            }
        });
    }

    /** The act that takes so many minutes can be done with as many left, but not with one less. */
    private void atTheEnd(String what, int players, ToIntFunction<ResetRooms> act, int minutes) {
        terms(OVER, () -> {
            ResetRooms x = Rooms.gameWith(players, minutes);
            s.is(what + " with as many minutes left is done", act.applyAsInt(x) == Due.TIME_OVER ? 1 : 0, 0);
            s.is("the clock after it", x.count(5), 60);
            ResetRooms y = Rooms.gameWith(players, minutes - 1);
            ResetRooms twin = Rooms.gameWith(players, minutes - 1);
            s.is(what + " with a minute less", act.applyAsInt(y), Due.TIME_OVER);
            s.is("the game is over", y.count(14), 0);
            s.is("the minutes until its last one pass", y.count(5), 60);
            s.is("minutes of the result", y.result(0, 3), 60);
            s.is("the group has lost", y.result(0, 4), 0);
            s.is("nudges of the result", y.result(0, 5), 0);
            s.is("the act is not done", things(y), things(fade(twin, minutes - 1)));
        });
    }

    /** The other room's game ends at the same minute without the act. */
    private static ResetRooms fade(ResetRooms x, int minutes) {
        Rooms.pass(x, minutes);
        x.giveUp();
        return x;
    }

    /** What a room tells but for its log. */
    private static String things(ResetRooms x) {
        String told = Told.state(x);
        return told.substring(told.indexOf("; box"), told.indexOf("; log"));
    }

    private void ends() {
        terms("Otherwise the act is done, and then its minutes pass.", () -> {
            ResetRooms x = Rooms.house();
            x.idle(57);
            Due.play(x, 1);
            s.is("ink ahead of the reading", x.clue(0, 3), 9);
            s.is("read", x.read(0), 4);
            s.is("one unit by reading, one by the hour behind it", x.clue(0, 3), 7);
            ResetRooms y = Rooms.house();
            y.idle(599);
            s.is("the last units go by the hour at 540", y.clue(0, 3), 0);
            ResetRooms z = Rooms.house();
            z.idle(479);
            Due.play(z, 1);
            s.is("2 units ahead of the act", z.clue(0, 3), 2);
            z.read(0);
            s.is("none behind it", z.clue(0, 3), 0);
        });
        terms("If the exit was opened by it, the game ends then, and the group has won.", () -> {
            ResetRooms x = Rooms.game(1);
            s.is("another box", x.open(1, 0), 1);
            s.is("the game goes on", x.count(14), 1);
            s.is("the exit with a wrong code", x.open(3, 1), 0);
            s.is("the game goes on", x.count(14), 1);
            s.is("the exit", x.open(3, 417), 2);
            s.is("no game", x.count(14), 0);
            s.is("minutes, those of the last act with them", x.result(0, 3), 4 + 8 + 4);
            s.is("won", x.result(0, 4), 1);
            s.is("the exit is open", x.box(3, 2), 1);
        });
        terms("When a game ends, the props that the group holds come to lie in the room, and a result is noted;", () -> {
            fallenProps("won", x -> x.open(3, 417));
            fallenProps("given up", x -> x.giveUp());
            fallenProps("over by time", x -> x.rest(53) + x.rest(2));
        });
        terms("there are up to 30 results.", () -> {
            ResetRooms x = Rooms.results(29);
            s.is("the 30th game", Due.play(x, 1), 0);
            s.is("its result", x.result(29, 0), Due.UNKNOWN);
            x.giveUp();
            s.is("its result", x.result(29, 0), 1);
            s.is("results", x.count(7), 30);
            s.is("a 31st game", Due.play(x, 1), Due.FULL);
        });
    }

    private void fallenProps(String how, ToIntFunction<ResetRooms> end) {
        ResetRooms x = Rooms.game(3);
        x.open(1, 0);
        x.take(2);
        x.take(0);
        end.applyAsInt(x);
        s.is("no game when it is " + how, x.count(14), 0);
        s.is("the prop from the box 1 lies in the room", x.prop(2, 1), 0);
        s.is("the prop from the room lies there", x.prop(0, 1), 0);
        s.is("the props in the room", x.box(0, 4), 3);
        s.is("results", x.count(7), 1);
    }
}
