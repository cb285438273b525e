/** Promises 10 to 12 and 30 to 32: groups, starts and results. */
final class GroupsTest {
    private static final Due due = new Due("GroupsTest");

    public static void main(String[] args) {
        booking();
        cancelling();
        starting();
        startErrors();
        thirtyResults();
        startsAhead();
        presentGame();
        results();
        due.end();
    }

    private static void booking() {
        ResetRooms x = new ResetRooms();
        due.is("0 players", x.book(0, 5), Due.BAD_VALUE);
        due.is("7 players", x.book(7, 5), Due.BAD_VALUE);
        due.is("start -1", x.book(1, -1), Due.BAD_VALUE);
        due.is("start 100001", x.book(1, 100001), Due.BAD_VALUE);
        due.is("book(1, 0)", x.book(1, 0), 1);
        due.is("book(6, 500)", x.book(6, 500), 2);
        ResetRooms y = new ResetRooms();
        y.book(1, 8);
        due.is("one waits and wants to start later", y.book(1, 7), Due.NOT_POSSIBLE);
        due.is("one waits and wants to start then", y.book(1, 8), 2);
        due.is("book(2, 499)", x.book(2, 499), Due.NOT_POSSIBLE);
        due.is("BAD_VALUE ahead of NOT_POSSIBLE", x.book(0, 499), Due.BAD_VALUE);
        due.is("book(2, 500)", x.book(2, 500), 3);
        for (int waiting = 4; waiting <= 8; waiting++) {
            due.is("book", x.book(3, 99999), waiting);
        }
        due.is("the ninth group", x.book(3, 100000), Due.FULL);
        due.is("NOT_POSSIBLE ahead of FULL", x.book(3, 99998), Due.NOT_POSSIBLE);
        due.is("BAD_VALUE ahead of FULL", x.book(3, 100001), Due.BAD_VALUE);
        due.is("groups", x.count(3), 8);
        due.is("players", x.group(1, 0), 6);
        due.is("wanted start", x.group(7, 1), 99999);
    }

    private static void cancelling() {
        ResetRooms x = new ResetRooms();
        due.is("cancel(0)", x.cancel(0), Due.UNKNOWN);
        x.book(1, 10);
        x.book(2, 20);
        x.book(3, 30);
        due.is("cancel(-1)", x.cancel(-1), Due.UNKNOWN);
        due.is("cancel(3)", x.cancel(3), Due.UNKNOWN);
        due.is("cancel(1)", x.cancel(1), 2);
        due.is("the next", x.group(0, 0), 1);
        due.is("the one behind", x.group(1, 0), 3);
        due.is("its start", x.group(1, 1), 30);
        due.is("no third", x.group(2, 0), Due.UNKNOWN);
        due.is("cancel the last", x.cancel(1), 1);
        due.is("book earlier now", x.book(4, 10), 2);
        due.is("cancel(0)", x.cancel(0), 1);
        due.is("the next", x.group(0, 0), 4);
        due.is("cancel(0)", x.cancel(0), 0);
        due.is("book anew", x.book(4, 0), 1);
    }

    private static void starting() {
        ResetRooms x = Due.latchRoom();
        x.book(1, 100);
        x.book(2, 110);
        due.is("in time", x.startGame(), 0);
        due.is("the clock", x.count(5), 100);
        due.is("a game", x.count(14), 1);
        due.is("waiting", x.count(3), 1);
        due.is("start", x.game(1), 100);
        x.rest(30);
        due.is("behind", x.count(4), 1);
        due.is("cancel and book in a game", x.book(3, 130), 2);
        due.is("not behind at its minute", x.count(4), 1);
        x.giveUp();
        due.is("late", x.startGame(), 20);
        due.is("start", x.game(1), 130);
        due.is("players", x.game(0), 2);
        due.is("log is empty", x.count(10), 0);
        due.is("minutes left", x.game(2), 60);
    }

    private static void startErrors() {
        ResetRooms x = new ResetRooms();
        Due.box(x, "0 latch");
        due.is("nobody waits, no exit", x.startGame(), Due.NOT_POSSIBLE);
        x.book(1, 0);
        x.book(1, 7);
        due.is("no exit", x.startGame(), Due.NOT_POSSIBLE);
        x.setExit(1);
        due.is("start", x.startGame(), 0);
        due.is("in a game", x.startGame(), Due.NOT_POSSIBLE);
        due.is("win", x.open(1, 0), 2);
        due.is("the exit is open", x.startGame(), Due.NOT_POSSIBLE);
        due.is("still waiting", x.count(3), 1);
        due.is("the clock stands", x.count(5), 4);
        x.close(1);
        due.is("start", x.startGame(), 0);
        due.is("start minute", x.game(1), 7);
        x.giveUp();
        due.is("nobody waits", x.startGame(), Due.NOT_POSSIBLE);
    }

    private static void thirtyResults() {
        ResetRooms x = Due.latchRoom();
        for (int game = 0; game < 30; game++) {
            due.is("start", Due.play(x, 1), 0);
            due.is("giveUp", x.giveUp(), 0);
        }
        due.is("results", x.count(7), 30);
        due.is("NOT_POSSIBLE ahead of FULL", x.startGame(), Due.NOT_POSSIBLE);
        x.book(2, 50);
        due.is("the 31st game", x.startGame(), Due.FULL);
        due.is("the clock stands", x.count(5), 0);
        due.is("the group waits", x.count(3), 1);
        due.is("result(29, 0)", x.result(29, 0), 1);
        due.is("result(30, 0)", x.result(30, 0), Due.UNKNOWN);
    }

    private static void startsAhead() {
        ResetRooms x = Due.latchRoom();
        x.idle(5);
        x.book(1, 3);
        x.book(2, 75);
        x.book(3, 76);
        x.book(4, 300);
        x.book(5, 300);
        int[] before = {5, 75, 145, 300, 370};
        for (int group = 0; group < 5; group++) {
            due.is("group(" + group + ", 2) between games", x.group(group, 2), before[group]);
        }
        due.is("late by", x.startGame(), 2);
        x.setLimits(20, 3);
        x.rest(7);
        int[] during = {75, 145, 300, 370};
        for (int group = 0; group < 4; group++) {
            due.is("group(" + group + ", 2) in a game", x.group(group, 2), during[group]);
        }
        x.giveUp();
        x.setLimits(20, 3);
        int[] after = {75, 105, 300, 330};
        for (int group = 0; group < 4; group++) {
            due.is("group(" + group + ", 2) behind it", x.group(group, 2), after[group]);
        }
        due.is("what -1", x.group(0, -1), Due.BAD_VALUE);
        due.is("what 3", x.group(0, 3), Due.BAD_VALUE);
        due.is("UNKNOWN ahead", x.group(4, 3), Due.UNKNOWN);
        due.is("group -1", x.group(-1, 0), Due.UNKNOWN);
        ResetRooms y = Due.latchRoom();
        y.book(1, 0);
        y.book(1, 65);
        y.startGame();
        due.is("10 minutes behind the present game", y.group(0, 2), 70);
    }

    private static void presentGame() {
        ResetRooms x = new ResetRooms();
        Due.box(x, "0 code 1234");
        x.setExit(1);
        x.addProp(0);
        x.addProp(0);
        x.addProp(0);
        due.is("BAD_VALUE ahead", x.game(6), Due.BAD_VALUE);
        due.is("game(-1)", x.game(-1), Due.BAD_VALUE);
        for (int what = 0; what <= 5; what++) {
            due.is("no game", x.game(what), Due.NOT_POSSIBLE);
        }
        x.idle(9);
        Due.play(x, 3);
        x.take(0);
        x.take(2);
        x.nudge();
        x.open(1, 1);
        x.open(1, 4321);
        int[] wanted = {3, 9, 60 - 2 - 2 - 2 - 6 - 6, 1, 5, 2};
        for (int what = 0; what <= 5; what++) {
            due.is("game(" + what + ")", x.game(what), wanted[what]);
        }
        due.is("game(6)", x.game(6), Due.BAD_VALUE);
        x.giveUp();
        Due.play(x, 1);
        due.is("nudges anew", x.game(3), 0);
        due.is("hands anew", x.game(4), 0);
        due.is("wrong codes anew", x.game(5), 0);
        due.is("digits anew", x.box(1, 7), 0);
    }

    private static void results() {
        ResetRooms x = new ResetRooms();
        Due.box(x, "0 latch");
        Due.box(x, "0 latch");
        x.addProp(2);
        x.setExit(2);
        x.book(2, 10);
        x.startGame();
        x.open(1, 0);
        x.nudge();
        x.open(2, 0);
        x.close(2);
        x.book(3, 0);
        x.startGame();
        x.open(2, 0);
        x.take(0);
        due.is("a game over by opening the exit takes nothing more", x.prop(0, 1), 2);
        x.close(2);
        x.book(1, 12);
        x.startGame();
        x.rest(60);
        x.rest(1);
        int[][] wanted = {{2, 10, 10, 8, 1, 1, 0}, {3, 0, 19, 3, 1, 0, 1}, {1, 12, 23, 60, 0, 0, 1}};
        for (int result = 0; result < 3; result++) {
            for (int what = 0; what < 7; what++) {
                due.is("result(" + result + ", " + what + ")", x.result(result, what), wanted[result][what]);
            }
        }
        due.is("won", x.count(8), 2);
        due.is("results", x.count(7), 3);
        due.is("what 7", x.result(0, 7), Due.BAD_VALUE);
        due.is("what -1", x.result(0, -1), Due.BAD_VALUE);
        due.is("UNKNOWN ahead", x.result(3, 7), Due.UNKNOWN);
        due.is("result -1", x.result(-1, 0), Due.UNKNOWN);
    }
}
