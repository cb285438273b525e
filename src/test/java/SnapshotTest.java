/** Promises 25 and 26: snapshots. */
final class SnapshotTest {
    private static final Due due = new Due("SnapshotTest");

    public static void main(String[] args) {
        slots();
        allOfTheState();
        inAGame();
        apart();
        changedBehindIt();
        due.end();
    }

    private static void slots() {
        ResetRooms x = Due.latchRoom();
        due.is("keep(-1)", x.keep(-1), Due.UNKNOWN);
        due.is("keep(2)", x.keep(2), Due.UNKNOWN);
        due.is("restore(-1)", x.restore(-1), Due.UNKNOWN);
        due.is("restore(2)", x.restore(2), Due.UNKNOWN);
        due.is("restore(0)", x.restore(0), Due.NONE);
        x.idle(5);
        due.is("keep(0)", x.keep(0), 5);
        due.is("restore(1)", x.restore(1), Due.NONE);
        x.idle(5);
        due.is("keep(1)", x.keep(1), 10);
        x.idle(7);
        due.is("restore(0)", x.restore(0), 5);
        due.is("restore(1)", x.restore(1), 10);
        due.is("restore(0) again", x.restore(0), 5);
        x.idle(30);
        due.is("in place of it", x.keep(0), 35);
        x.idle(1);
        due.is("restore(0)", x.restore(0), 35);
        due.is("restore(1)", x.restore(1), 10);
    }

    private static void allOfTheState() {
        ResetRooms x = new ResetRooms();
        x.keep(0);
        Due.type(x, "0 code 1234");
        x.addBox();
        x.addProp(0);
        x.addClue(0, 1, 0);
        x.setExit(1);
        x.setLimits(30, 5);
        x.addPaint(7);
        Due.play(x, 1);
        x.read(0);
        x.giveUp();
        x.book(4, 99);
        x.keep(1);
        due.is("restore(0)", x.restore(0), 0);
        int[] fresh = {1, 0, 0, 0, 0, 0, 0, 0, 0, Due.NONE, 0, 11, 60, 3, 0};
        for (int what = 0; what < fresh.length; what++) {
            due.is("count(" + what + ")", x.count(what), fresh[what]);
        }
        due.is("the text is not in it", x.addBox(), 1);
        due.is("a box of its own", x.box(1, 5), 0);
        x.clearText();
        due.is("restore(1)", x.restore(1), 3);
        int[] full = {2, 1, 1, 1, 0, 3, 7, 1, 0, 1, 14, 0, 30, 5, 0};
        for (int what = 0; what < full.length; what++) {
            due.is("count(" + what + ")", x.count(what), full[what]);
        }
        due.is("the log", Due.log(x), "0:read 0/3:up/");
        due.is("the ink", x.clue(0, 3), 8);
        due.is("the group", x.group(0, 1), 99);
        due.is("the players", x.group(0, 0), 4);
        due.is("the result", x.result(0, 3), 3);
        due.is("the code", x.box(1, 6), 1234);
        due.is("the home", x.prop(0, 0), 0);
    }

    private static void inAGame() {
        ResetRooms x = new ResetRooms();
        Due.box(x, "0 code 1234");
        Due.box(x, "0 latch");
        x.addProp(0);
        x.addProp(0);
        x.addClue(0, 1, 2);
        x.setExit(1);
        x.idle(8);
        Due.play(x, 3);
        x.take(0);
        x.read(0);
        x.open(1, 9);
        x.nudge();
        x.open(2, 0);
        due.is("keep in a game", x.keep(0), 8 + 2 + 2 + 6 + 2 + 3);
        String log = Due.log(x);
        x.open(1, 1234);
        x.close(2);
        due.is("restore", x.restore(0), 23);
        int[] game = {3, 8, 45, 1, 1, 1};
        for (int what = 0; what < game.length; what++) {
            due.is("game(" + what + ")", x.game(what), game[what]);
        }
        due.is("the log", Due.log(x), log);
        due.is("digits", x.box(1, 7), 5);
        due.is("the open box", x.box(2, 2), 1);
        due.is("the exit", x.box(1, 2), 0);
        due.is("no result", x.count(7), 0);
        due.is("take a second one", x.take(1), 2);
        due.is("win", x.open(1, 1234), 2);
        due.is("minutes", x.result(0, 3), 20);
        due.is("restore behind the game", x.restore(0), 23);
        due.is("a game", x.count(14), 1);
        due.is("held", x.game(4), 1);
        due.is("differences at its start", x.giveUp() * 10 + x.result(0, 6), 150);
    }

    /** All that a snapshot tells is another thing when it is restored. */
    private static void changedBehindIt() {
        ResetRooms x = new ResetRooms();
        x.keep(1);
        Due.box(x, "0 code 1234");
        Due.box(x, "0 latch");
        Due.box(x, "0 latch");
        x.addProp(0);
        x.addProp(2);
        x.addClue(0, 1, 1);
        x.setExit(2);
        x.book(2, 4);
        x.startGame();
        x.nudge();
        x.open(1, 0);
        x.open(3, 0);
        x.giveUp();
        x.book(3, 1);
        x.book(5, 77);
        x.book(6, 78);
        x.startGame();
        x.take(0);
        x.nudge();
        x.open(1, 0);
        x.keep(0);
        x.giveUp();
        x.cancel(0);
        x.cancel(0);
        x.restore(1);
        Due.box(x, "0 latch");
        Due.box(x, "1 latch");
        x.addProp(1);
        x.addProp(0);
        x.setExit(1);
        x.book(1, 500);
        x.startGame();
        x.take(1);
        x.lay(1, 0);
        x.nudge();
        x.open(1, 0);
        x.book(1, 600);
        x.book(1, 700);
        x.close(1);
        x.startGame();
        due.is("restore(0)", x.restore(0), 25);
        int[] game = {3, 15, 50, 1, 1, 1};
        for (int what = 0; what < game.length; what++) {
            due.is("game(" + what + ")", x.game(what), game[what]);
        }
        int[] result = {2, 4, 4, 11, 0, 1, 0};
        for (int what = 0; what < result.length; what++) {
            due.is("result(0, " + what + ")", x.result(0, what), result[what]);
        }
        due.is("players of a group", x.group(0, 0) * 10 + x.group(1, 0), 56);
        due.is("start of a group", x.group(1, 1), 78);
        due.is("homes", x.prop(0, 0) * 10 + x.prop(1, 0), 2);
        due.is("the log", Due.log(x), "0:take 0/2:nudge 302/4:open 1/");
        due.is("what is held", x.prop(0, 1), Due.NONE);
        due.is("a lock", x.box(1, 1), 2);
        due.is("an outer box", x.box(2, 0), 0);
        due.is("the clue", x.clue(0, 2), 1);
        due.is("wins", x.count(8), 0);
        due.is("a wrong code", x.open(1, 0), 0);
        due.is("6 minutes by three players", x.giveUp(), 10 + 6);
        due.is("wanted start of the result", x.result(1, 1), 1);
        due.is("nudges of the result", x.result(1, 5), 1);
        due.is("differences of the result", x.result(1, 6), 1);
    }

    private static void apart() {
        ResetRooms x = Due.latchRoom();
        x.addProp(0);
        x.keep(0);
        x.restore(0);
        x.addProp(1);
        x.book(1, 0);
        x.startGame();
        x.take(0);
        x.open(1, 0);
        x.restore(0);
        due.is("what follows a restore is not in it: props", x.count(1), 1);
        due.is("groups", x.count(3), 0);
        due.is("boxes", x.box(1, 2), 0);
        due.is("results", x.count(7), 0);
        due.is("log", x.count(10), 0);
        ResetRooms y = new ResetRooms();
        due.is("another room has no snapshot", y.restore(0), Due.NONE);
    }
}
