/** Promises 20 to 24 and 35: what the master does between games, and the differences. */
final class BetweenTest {
    private static final Due due = new Due("BetweenTest");

    public static void main(String[] args) {
        idling();
        bringingHome();
        closing();
        writing();
        resetting();
        resetWithLittlePaint();
        resetTakesItsTimeBehind();
        differencesInAGame();
        due.end();
    }

    /** Two boxes with a latch, the second one in the first one, a prop at home in each, and the exit. */
    private static ResetRooms playedRoom() {
        ResetRooms x = new ResetRooms();
        Due.box(x, "0 latch");
        Due.box(x, "1 latch");
        Due.box(x, "0 latch");
        x.addProp(1);
        x.addProp(2);
        x.setExit(3);
        Due.play(x, 2);
        x.open(1, 0);
        x.open(2, 0);
        x.take(0);
        x.take(1);
        x.lay(1, 1);
        return x;
    }

    private static void idling() {
        ResetRooms x = Due.latchRoom();
        due.is("idle(0)", x.idle(0), Due.BAD_VALUE);
        due.is("idle(1001)", x.idle(1001), Due.BAD_VALUE);
        due.is("idle(-1)", x.idle(-1), Due.BAD_VALUE);
        due.is("idle(1)", x.idle(1), 1);
        due.is("idle(1000)", x.idle(1000), 1001);
        Due.play(x, 1);
        due.is("BAD_VALUE in a game", x.idle(1001), Due.BAD_VALUE);
        due.is("in a game", x.idle(1), Due.NOT_POSSIBLE);
        due.is("the clock", x.count(5), 1001);
    }

    private static void bringingHome() {
        ResetRooms x = playedRoom();
        due.is("putHome(-1)", x.putHome(-1), Due.UNKNOWN);
        due.is("putHome(2)", x.putHome(2), Due.UNKNOWN);
        due.is("in a game", x.putHome(1), Due.NOT_POSSIBLE);
        x.giveUp();
        int clock = x.count(5);
        due.is("from the room", x.putHome(0), 0);
        due.is("the clock", x.count(5), clock + 1);
        due.is("it lies at home", x.prop(0, 1), 1);
        due.is("at home", x.putHome(0), Due.NONE);
        due.is("NONE takes no time", x.count(5), clock + 1);
        x.close(1);
        due.is("in a closed box", x.putHome(1), 1);
        due.is("it lies at home", x.prop(1, 1), 2);
        due.is("the clock", x.count(5), clock + 3);
    }

    private static void closing() {
        ResetRooms x = playedRoom();
        due.is("close(-1)", x.close(-1), Due.UNKNOWN);
        due.is("close(4)", x.close(4), Due.UNKNOWN);
        due.is("the room in a game", x.close(0), Due.BAD_VALUE);
        due.is("in a game", x.close(1), Due.NOT_POSSIBLE);
        due.is("a closed one in a game", x.close(3), Due.NOT_POSSIBLE);
        x.giveUp();
        int clock = x.count(5);
        due.is("the room", x.close(0), Due.BAD_VALUE);
        due.is("a closed one", x.close(3), Due.NONE);
        due.is("NONE takes no time", x.count(5), clock);
        due.is("close(1)", x.close(1), 1);
        due.is("close(2) in it", x.close(2), 0);
        due.is("the clock", x.count(5), clock + 2);
        due.is("again", x.close(2), Due.NONE);
    }

    /** A clue in the room and one in a closed box, with all the ink. */
    private static ResetRooms inkRoom() {
        ResetRooms x = new ResetRooms();
        Due.box(x, "0 code 1234");
        x.addProp(0);
        x.addProp(1);
        x.addClue(0, 1, 0);
        x.addClue(1, 1, 1);
        x.setExit(1);
        return x;
    }

    private static void writing() {
        ResetRooms x = inkRoom();
        due.is("writeOver(-1)", x.writeOver(-1), Due.UNKNOWN);
        due.is("writeOver(2)", x.writeOver(2), Due.UNKNOWN);
        due.is("full ink without paint", x.writeOver(0), Due.NONE);
        due.is("the clock", x.count(5), 0);
        x.idle(180);
        due.is("no paint", x.writeOver(0), Due.NOT_POSSIBLE);
        x.addPaint(2);
        due.is("not so much paint", x.writeOver(0), Due.NOT_POSSIBLE);
        due.is("the paint", x.count(6), 2);
        x.addPaint(1);
        Due.play(x, 1);
        due.is("in a game", x.writeOver(0), Due.NOT_POSSIBLE);
        due.is("full ink in a game", x.writeOver(1), Due.NOT_POSSIBLE);
        x.giveUp();
        due.is("as much paint as it lacks", x.writeOver(0), 3);
        due.is("the paint", x.count(6), 0);
        due.is("the ink", x.clue(0, 3), 9);
        due.is("the clock", x.count(5), 181);
        due.is("full ink", x.writeOver(0), Due.NONE);
        x.addPaint(9);
        x.idle(58);
        x.idle(60);
        due.is("ink", x.clue(0, 3), 8);
        x.idle(60);
        due.is("the hour that its minute comes to fades it", x.writeOver(0), 2);
        due.is("ink", x.clue(0, 3), 8);
        due.is("the clock", x.count(5), 360);
    }

    private static void resetting() {
        ResetRooms x = playedRoom();
        due.is("in a game", x.reset(), Due.NOT_POSSIBLE);
        x.giveUp();
        int clock = x.count(5);
        int[] before = {2, 2, 0, 4, 0};
        for (int what = 0; what < 5; what++) {
            due.is("differences(" + what + ")", x.differences(what), before[what]);
        }
        due.is("differences(-1)", x.differences(-1), Due.BAD_VALUE);
        due.is("differences(5)", x.differences(5), Due.BAD_VALUE);
        due.is("two props, two boxes", x.reset(), 4);
        due.is("the clock", x.count(5), clock + 4);
        due.is("prop 0", x.prop(0, 1), 1);
        due.is("prop 1", x.prop(1, 1), 2);
        due.is("box 1", x.box(1, 2), 0);
        due.is("box 2", x.box(2, 2), 0);
        due.is("the room stays open", x.box(0, 2), 1);
        due.is("nothing to do", x.reset(), Due.NONE);
        due.is("the clock", x.count(5), clock + 4);
        for (int what = 0; what < 5; what++) {
            due.is("differences(" + what + ")", x.differences(what), 0);
        }
    }

    private static void resetWithLittlePaint() {
        ResetRooms x = new ResetRooms();
        Due.box(x, "0 code 1234");
        x.addProp(0);
        x.setExit(1);
        x.addClue(0, 1, 0);
        x.idle(60);
        x.addClue(0, 1, 1);
        x.idle(60);
        x.addClue(0, 1, 2);
        x.idle(60 * 5);
        // 2, 3 and 4 units of ink: only the first two are pale.
        due.is("pale clues", x.differences(2), 2);
        due.is("no paint, nothing to do", x.differences(3), 0);
        due.is("no paint is used", x.differences(4), 0);
        due.is("no paint, nothing to do", x.reset(), Due.NONE);
        due.is("the clock", x.count(5), 420);
        x.addPaint(6);
        due.is("paint for the second one alone", x.differences(3), 1);
        due.is("its paint", x.differences(4), 6);
        x.addPaint(1);
        due.is("paint for the first one alone", x.differences(4), 7);
        x.addPaint(5);
        due.is("not for both", x.differences(4), 7);
        due.is("not for both", x.differences(3), 1);
        x.addPaint(1);
        due.is("for both", x.differences(4), 13);
        due.is("for both", x.differences(3), 2);
        x.addPaint(100);
        due.is("reset", x.reset(), 2);
        due.is("the paint", x.count(6), 100);
        due.is("clue 0", x.clue(0, 3), 9);
        due.is("clue 1", x.clue(1, 3), 9);
        due.is("4 units are not written over", x.clue(2, 3), 4);
    }

    private static void resetTakesItsTimeBehind() {
        ResetRooms x = inkRoom();
        Due.play(x, 1);
        x.open(1, 1234);
        x.idle(4);
        x.idle(370);
        due.is("clue 0", x.clue(0, 3), 3);
        due.is("clue 1 in the open box", x.clue(1, 3), 3);
        x.addPaint(12);
        x.idle(40);
        due.is("the clock", x.count(5), 418);
        due.is("a box and two clues", x.reset(), 3);
        due.is("the clock", x.count(5), 421);
        due.is("clue 0 fades at 420", x.clue(0, 3), 8);
        due.is("clue 1 in the closed box does not", x.clue(1, 3), 9);
    }

    private static void differencesInAGame() {
        ResetRooms x = playedRoom();
        int[] wanted = {2, 2, 0, 4, 0};
        for (int what = 0; what < 5; what++) {
            due.is("differences(" + what + ") in a game", x.differences(what), wanted[what]);
        }
        x.lay(0, 1);
        due.is("laid at home", x.differences(0), 1);
        x.take(0);
        due.is("held, not at home", x.differences(0), 2);
        due.is("differences(5)", x.differences(5), Due.BAD_VALUE);
        ResetRooms y = inkRoom();
        y.idle(360);
        y.addPaint(6);
        Due.play(y, 1);
        due.is("a pale clue in a game", y.differences(2), 1);
        due.is("its minute in a game", y.differences(3), 1);
        due.is("its paint in a game", y.differences(4), 6);
    }
}
