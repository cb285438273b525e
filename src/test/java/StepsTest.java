/** Promises 18, 33 and 34: the next step, nudges and plans. */
final class StepsTest {
    private static final Due due = new Due("StepsTest");

    public static void main(String[] args) {
        noGame();
        latches();
        keys();
        plates();
        fullHands();
        codes();
        inkDecides();
        cluesInBoxes();
        longWays();
        keyInItsOwnBox();
        twoKeysInCircle();
        codeInItsBox();
        nudging();
        planning();
        planningWithPaleInk();
        planningLeavesAll();
        due.end();
    }

    private static void noGame() {
        ResetRooms x = new ResetRooms();
        due.is("nextStep()", x.nextStep(), Due.NOT_POSSIBLE);
        due.is("nudge()", x.nudge(), Due.NOT_POSSIBLE);
        due.is("plan(0)", x.plan(0), Due.BAD_VALUE);
        due.is("plan(7)", x.plan(7), Due.BAD_VALUE);
        due.is("plan(1) without an exit", x.plan(1), Due.NOT_POSSIBLE);
    }

    private static void latches() {
        ResetRooms x = new ResetRooms();
        Due.box(x, "0 latch");
        Due.box(x, "1 latch");
        Due.box(x, "2 latch");
        x.setExit(3);
        Due.play(x, 1);
        due.is("the outermost box", x.nextStep(), 301);
        x.open(1, 0);
        due.is("the next one", x.nextStep(), 302);
        x.open(2, 0);
        due.is("the exit", x.nextStep(), 303);
        x.giveUp();
        x.close(1);
        Due.play(x, 1);
        due.is("an outer box around an open one", x.nextStep(), 301);
        x.open(1, 0);
        due.is("straight to the exit", x.nextStep(), 303);
    }

    private static void keys() {
        ResetRooms x = new ResetRooms();
        x.addProp(0);
        Due.box(x, "0 key 0");
        x.addProp(1);
        Due.box(x, "0 key 1");
        Due.box(x, "2 latch");
        x.setExit(3);
        Due.play(x, 2);
        due.is("the key of the box of the key", x.nextStep(), 100);
        x.take(0);
        due.is("the box of the key", x.nextStep(), 301);
        x.open(1, 0);
        due.is("the key", x.nextStep(), 101);
        x.take(1);
        due.is("the outer box", x.nextStep(), 302);
        x.open(2, 0);
        due.is("the exit", x.nextStep(), 303);
    }

    private static void plates() {
        ResetRooms x = new ResetRooms();
        x.addProp(0);
        Due.box(x, "0 latch");
        Due.box(x, "1 plate 0");
        x.setExit(2);
        Due.play(x, 1);
        due.is("the box around it", x.nextStep(), 301);
        x.open(1, 0);
        due.is("hold the prop", x.nextStep(), 100);
        x.take(0);
        due.is("lay it in the outer box", x.nextStep(), 1200);
        x.lay(0, 0);
        due.is("hold it again", x.nextStep(), 100);
        x.take(0);
        x.lay(0, 1);
        due.is("open", x.nextStep(), 302);
        x.take(0);
        due.is("lay it anew", x.nextStep(), 1200);
    }

    private static void fullHands() {
        ResetRooms x = new ResetRooms();
        for (int prop = 0; prop < 4; prop++) {
            x.addProp(0);
        }
        Due.box(x, "0 key 0");
        x.setExit(1);
        Due.play(x, 2);
        x.take(3);
        due.is("a hand is free", x.nextStep(), 100);
        x.take(2);
        due.is("the lowest prop into the room", x.nextStep(), 202);
        x.lay(2, 0);
        due.is("take", x.nextStep(), 100);
        x.take(0);
        due.is("full hands do not matter with the key", x.nextStep(), 301);
    }

    private static void codes() {
        ResetRooms x = new ResetRooms();
        x.addProp(0);
        Due.box(x, "0 code 9053");
        x.addClue(0, 1, 3);
        x.addClue(0, 1, 1);
        x.setExit(1);
        x.setLimits(60, 9);
        Due.play(x, 1);
        due.is("the lowest place has no clue", x.nextStep(), 500);
        x.read(0);
        due.is("a higher place does not matter", x.nextStep(), 500);
        due.is("nudge", x.nudge(), 500);
        due.is("known", x.box(1, 7), 9);
        due.is("the place 1 has one", x.nextStep(), 401);
        due.is("a nudge to read tells no digit", x.nudge(), 401);
        due.is("known", x.box(1, 7), 9);
        x.read(1);
        due.is("the place 2", x.nudge(), 502);
        due.is("known", x.box(1, 7), 15);
        due.is("open", x.nextStep(), 301);
    }

    private static void inkDecides() {
        ResetRooms x = new ResetRooms();
        x.addProp(0);
        Due.box(x, "0 code 1111");
        Due.box(x, "0 code 1111");
        for (int i = 0; i < 3; i++) {
            x.addClue(0, 1, 0);
        }
        x.addClue(0, 2, 0);
        x.addClue(0, 1, 1);
        x.setExit(1);
        x.setLimits(120, 3);
        Due.play(x, 1);
        due.is("of several the lowest", x.nextStep(), 400);
        x.read(0);
        x.giveUp();
        Due.play(x, 1);
        due.is("the one with the most ink", x.nextStep(), 401);
        x.read(1);
        x.read(1);
        x.giveUp();
        Due.play(x, 1);
        due.is("the most ink is behind", x.nextStep(), 402);
        x.read(2);
        x.giveUp();
        Due.play(x, 1);
        due.is("two with the same ink", x.nextStep(), 400);
        x.giveUp();
        x.idle(420 - x.count(5));
        due.is("ink", x.clue(0, 3), 1);
        Due.play(x, 1);
        due.is("a unit of ink is enough", x.nextStep(), 400);
        x.giveUp();
        x.idle(600);
        Due.play(x, 1);
        due.is("no clue has ink", x.nextStep(), 500);
    }

    private static void cluesInBoxes() {
        ResetRooms x = new ResetRooms();
        Due.box(x, "0 latch");
        Due.box(x, "0 latch");
        Due.box(x, "2 latch");
        Due.box(x, "0 code 2222");
        x.addProp(3);
        x.addProp(1);
        x.addProp(0);
        x.addClue(0, 4, 0);
        x.addClue(1, 4, 0);
        x.addClue(2, 4, 0);
        x.setExit(4);
        Due.play(x, 1);
        due.is("the clue that is at hand", x.nextStep(), 402);
        x.giveUp();
        x.idle(540);
        Due.play(x, 1);
        due.is("the outermost box around the lowest clue", x.nextStep(), 302);
        x.open(2, 0);
        due.is("the box of it", x.nextStep(), 303);
        x.open(1, 0);
        due.is("another clue that is at hand", x.nextStep(), 401);
        x.open(3, 0);
        due.is("the lowest clue", x.nextStep(), 400);
        x.giveUp();
        x.close(2);
        Due.play(x, 1);
        due.is("at hand again", x.nextStep(), 401);
        x.giveUp();
        x.close(1);
        Due.play(x, 1);
        due.is("open in a closed one", x.nextStep(), 302);
    }

    private static void longWays() {
        ResetRooms x = new ResetRooms();
        Due.box(x, "0 latch");
        Due.box(x, "1 latch");
        x.addProp(2);
        Due.box(x, "0 key 0");
        x.setExit(3);
        due.is("a key in two boxes", x.plan(1), 4 + 4 + 3 + 4);
        ResetRooms y = new ResetRooms();
        Due.box(y, "0 latch");
        y.addProp(0);
        Due.box(y, "1 plate 0");
        y.addProp(2);
        Due.box(y, "0 key 1");
        y.setExit(3);
        due.is("a key in a box with a plate", y.plan(1), 4 + 3 + 2 + 4 + 3 + 4);
        ResetRooms z = new ResetRooms();
        z.addProp(0);
        Due.box(z, "0 key 0");
        z.addProp(1);
        Due.box(z, "0 code 1234");
        z.addClue(1, 2, 0);
        z.addProp(2);
        Due.box(z, "2 key 0");
        Due.box(z, "0 key 2");
        z.setExit(4);
        due.is("a key in a box whose clue lies in a box", z.plan(6), 1 + 1 + 1 + 2 + 2 + 2 + 1 + 1 + 1);
    }

    private static void keyInItsOwnBox() {
        ResetRooms x = new ResetRooms();
        x.addProp(0);
        Due.box(x, "0 key 0");
        Due.box(x, "0 latch");
        x.setExit(2);
        Due.play(x, 1);
        x.take(0);
        x.open(1, 0);
        x.lay(0, 1);
        x.giveUp();
        x.close(1);
        x.setExit(1);
        due.is("plan", x.plan(1), Due.NONE);
        Due.play(x, 1);
        due.is("nextStep", x.nextStep(), Due.NONE);
        due.is("nudge", x.nudge(), Due.NONE);
        due.is("no nudge is counted", x.game(3), 0);
        due.is("no entry", x.count(10), 0);
        due.is("no time passes", x.game(2), 60);
        x.rest(59);
        due.is("NONE ahead of TIME_OVER", x.nudge(), Due.NONE);
        due.is("the game goes on", x.count(14), 1);
    }

    private static void twoKeysInCircle() {
        ResetRooms x = new ResetRooms();
        x.addProp(0);
        x.addProp(0);
        Due.box(x, "0 key 0");
        Due.box(x, "0 plate 1");
        Due.box(x, "0 latch");
        x.setExit(3);
        Due.play(x, 2);
        x.take(0);
        x.open(1, 0);
        x.open(2, 0);
        x.take(1);
        x.lay(0, 2);
        x.lay(1, 1);
        x.giveUp();
        x.close(1);
        x.close(2);
        x.setExit(1);
        due.is("plan in a circle of two", x.plan(6), Due.NONE);
        x.setExit(2);
        Due.play(x, 2);
        due.is("next step in a circle of two", x.nextStep(), Due.NONE);
    }

    private static void codeInItsBox() {
        ResetRooms x = new ResetRooms();
        Due.box(x, "0 code 0000");
        x.addProp(1);
        x.addClue(0, 1, 2);
        x.setExit(1);
        x.setLimits(60, 9);
        due.is("plan", x.plan(1), Due.NONE);
        Due.play(x, 1);
        due.is("the digits 0 and 1", x.nudge() * 1000 + x.nudge(), 500501);
        due.is("the clue in the box itself", x.nextStep(), Due.NONE);
        due.is("nudge", x.nudge(), Due.NONE);
        due.is("nudges", x.game(3), 2);
    }

    private static void nudging() {
        ResetRooms x = new ResetRooms();
        Due.box(x, "0 code 1234");
        x.addProp(1);
        Due.box(x, "0 key 0");
        x.setExit(2);
        x.setLimits(60, 2);
        Due.play(x, 5);
        due.is("a digit of another box", x.nudge(), 500);
        due.is("its digits", x.box(1, 7), 1);
        due.is("no digit of the exit", x.box(2, 7), 0);
        due.is("minutes", x.game(2), 58);
        due.is("the next digit", x.nudge(), 501);
        due.is("FULL", x.nudge(), Due.FULL);
        due.is("nudges", x.game(3), 2);
        due.is("the step is still told", x.nextStep(), 502);
        due.is("without time", x.game(2), 56);
        due.is("the log", Due.log(x), "0:nudge 500/2:nudge 501/");
        x.rest(56);
        due.is("FULL ahead of TIME_OVER", x.nudge(), Due.FULL);
        x.giveUp();
        x.setLimits(10, 2);
        Due.play(x, 5);
        x.rest(9);
        due.is("TIME_OVER", x.nudge(), Due.TIME_OVER);
        due.is("nudges of the result", x.result(1, 5), 0);
        due.is("the step after the game", x.nextStep(), Due.NOT_POSSIBLE);
        x.setLimits(10, 0);
        Due.play(x, 5);
        due.is("no nudges at all", x.nudge(), Due.FULL);
    }

    private static void planning() {
        int[] minutes = {3 + 2 + 4 + 3 + 4 + 4, 2 + 1 + 3 + 2 + 3 + 3, 2 + 1 + 3 + 2 + 3 + 3,
            1 + 1 + 2 + 1 + 2 + 2, 1 + 1 + 2 + 1 + 2 + 2, 1 + 1 + 1 + 1 + 1 + 1};
        ResetRooms x = new ResetRooms();
        x.addProp(0);
        Due.box(x, "0 latch");
        Due.box(x, "1 plate 0");
        x.addProp(2);
        Due.box(x, "0 key 1");
        x.setExit(3);
        for (int players = 1; players <= 6; players++) {
            due.is("plan(" + players + ")", x.plan(players), minutes[players - 1]);
        }
        Due.play(x, 1);
        due.is("plan(7) in a game", x.plan(7), Due.BAD_VALUE);
        due.is("in a game", x.plan(1), Due.NOT_POSSIBLE);
        x.take(0);
        x.open(1, 0);
        x.lay(0, 1);
        x.open(2, 0);
        x.take(1);
        x.open(3, 0);
        due.is("the exit is open", x.plan(3), 0);
        x.close(3);
        due.is("from here", x.plan(1), 7);
        ResetRooms y = new ResetRooms();
        Due.box(y, "0 code 1234");
        y.setExit(1);
        y.setLimits(10, 0);
        due.is("without nudges and behind the limit", y.plan(1), 12);
        due.is("6 players", y.plan(6), 9);
        ResetRooms z = new ResetRooms();
        z.addProp(0);
        Due.box(z, "0 key 0");
        z.addProp(1);
        Due.box(z, "0 key 1");
        z.addProp(2);
        Due.box(z, "0 key 2");
        z.setExit(3);
        due.is("a hand for all", z.plan(1), 3 + 4 + 2 + 3 + 4 + 2 + 3 + 4);
        due.is("two hands", z.plan(2), 2 + 3 + 2 + 3 + 1 + 2 + 3);
        due.is("three hands", z.plan(3), 2 + 3 + 2 + 3 + 2 + 3);
    }

    private static void planningWithPaleInk() {
        ResetRooms x = new ResetRooms();
        x.addProp(0);
        Due.box(x, "0 code 5555");
        x.addClue(0, 1, 0);
        x.addClue(0, 1, 1);
        x.setExit(1);
        due.is("full ink", x.plan(1), 3 + 3 + 2 + 2 + 4);
        x.idle(300);
        due.is("4 units", x.plan(1), 3 + 3 + 2 + 2 + 4);
        x.idle(60);
        due.is("3 units", x.plan(1), 6 + 6 + 2 + 2 + 4);
        due.is("3 units, 2 players", x.plan(2), 4 + 4 + 2 + 2 + 3);
        x.idle(180);
        due.is("no ink", x.plan(1), 2 + 2 + 2 + 2 + 4);
    }

    private static void planningLeavesAll() {
        ResetRooms x = new ResetRooms();
        x.addProp(0);
        Due.box(x, "0 key 0");
        x.addProp(1);
        Due.box(x, "1 code 5555");
        x.addClue(1, 2, 0);
        x.setExit(2);
        int first = x.plan(2);
        due.is("plan", first, 2 + 3 + 2 + 6 + 3);
        due.is("the key", x.prop(0, 1), 0);
        due.is("the box", x.box(1, 2), 0);
        due.is("the ink", x.clue(0, 3), 9);
        due.is("the clock", x.count(5), 0);
        due.is("the digits", x.box(2, 7), 0);
        due.is("plan again", x.plan(2), first);
    }
}
