/** Promises 13 to 17, 19 and 36: the acts of the group, time and the log. */
final class ActsTest {
    private static final Due due = new Due("ActsTest");

    public static void main(String[] args) {
        minutesOfActs();
        taking();
        laying();
        openingByHand();
        openingByKeyAndPlate();
        openingByCode();
        reading();
        paleInk();
        resting();
        givingUp();
        overByTime();
        theLastMinute();
        heldPropsFall();
        logging();
        fading();
        due.end();
    }

    /** A room with props 0 to 2 in it, the box 1 with the code 0417, the exit, and a clue on each of two props. */
    private static ResetRooms codeRoom() {
        ResetRooms x = new ResetRooms();
        Due.box(x, "0 code 0417");
        x.addProp(0);
        x.addProp(0);
        x.addProp(1);
        x.setExit(1);
        x.addClue(0, 1, 1);
        x.addClue(2, 1, 3);
        return x;
    }

    private static void minutesOfActs() {
        int[][] minutes = {{3, 2, 3, 8}, {2, 1, 2, 6}, {2, 1, 2, 6}, {1, 1, 1, 4}, {1, 1, 1, 4}, {1, 1, 1, 2}};
        for (int players = 1; players <= 6; players++) {
            ResetRooms x = codeRoom();
            Due.box(x, "0 latch");
            Due.play(x, players);
            int[] wanted = minutes[players - 1];
            x.take(0);
            due.is("to take", x.count(5), wanted[0]);
            x.lay(0, 0);
            due.is("to lay", x.count(5), wanted[0] + wanted[1]);
            x.read(0);
            due.is("to read", x.count(5), wanted[0] + wanted[1] + wanted[2]);
            int before = x.count(5);
            x.open(1, 1);
            due.is("a wrong code", x.count(5), before + wanted[3]);
            before = x.count(5);
            x.open(2, 1);
            due.is("to open", x.count(5), before + wanted[3] / 2);
            before = x.count(5);
            x.nudge();
            due.is("a nudge", x.count(5), before + 2);
            x.rest(7);
            due.is("a rest", x.count(5), before + 9);
        }
    }

    private static void taking() {
        ResetRooms x = codeRoom();
        due.is("take(-1)", x.take(-1), Due.UNKNOWN);
        due.is("take(3)", x.take(3), Due.UNKNOWN);
        due.is("no game", x.take(0), Due.NOT_POSSIBLE);
        Due.play(x, 2);
        due.is("not at hand", x.take(2), Due.NOT_POSSIBLE);
        due.is("take(1)", x.take(1), 1);
        due.is("held", x.take(1), Due.NOT_POSSIBLE);
        due.is("take(0)", x.take(0), 2);
        due.is("NOT_POSSIBLE ahead of FULL", x.take(0), Due.NOT_POSSIBLE);
        due.is("not at hand ahead of FULL", x.take(2), Due.NOT_POSSIBLE);
        due.is("UNKNOWN ahead", x.take(3), Due.UNKNOWN);
        due.is("errors take no time", x.game(2), 56);
        due.is("its box", x.prop(0, 1), Due.NONE);
        due.is("held is at hand", x.prop(0, 2), 1);
        x.giveUp();
        x.addProp(0);
        Due.play(x, 1);
        due.is("take(3)", x.take(3), 1);
        due.is("FULL", x.take(0), Due.FULL);
        x.rest(57);
        due.is("FULL ahead of TIME_OVER", x.take(0), Due.FULL);
        due.is("NOT_POSSIBLE ahead of TIME_OVER", x.take(3), Due.NOT_POSSIBLE);
        due.is("the game goes on", x.count(14), 1);
    }

    private static void laying() {
        ResetRooms x = codeRoom();
        Due.box(x, "0 latch");
        Due.box(x, "2 latch");
        due.is("lay(-1, 0)", x.lay(-1, 0), Due.UNKNOWN);
        due.is("lay(0, -1)", x.lay(0, -1), Due.UNKNOWN);
        due.is("lay(3, 0)", x.lay(3, 0), Due.UNKNOWN);
        due.is("lay(0, 4)", x.lay(0, 4), Due.UNKNOWN);
        due.is("no game", x.lay(0, 0), Due.NOT_POSSIBLE);
        Due.play(x, 3);
        due.is("not held", x.lay(0, 0), Due.NOT_POSSIBLE);
        x.take(0);
        x.take(1);
        due.is("into a closed box", x.lay(0, 2), Due.NOT_POSSIBLE);
        due.is("into a box in a closed box", x.lay(0, 3), Due.NOT_POSSIBLE);
        x.open(2, 0);
        due.is("into a closed box in an open one", x.lay(0, 3), Due.NOT_POSSIBLE);
        due.is("into an open box", x.lay(0, 2), 1);
        due.is("its box", x.prop(0, 1), 2);
        due.is("props in the box", x.box(2, 4), 1);
        x.open(3, 0);
        due.is("into an open box in an open one", x.lay(1, 3), 0);
        due.is("take it", x.take(1), 1);
        x.giveUp();
        x.close(2);
        Due.play(x, 3);
        x.take(1);
        due.is("the box 3 is open, but not at hand", x.box(3, 2) * 10 + x.box(3, 3), 10);
        due.is("into an open box in a closed one", x.lay(1, 3), Due.NOT_POSSIBLE);
    }

    private static void openingByHand() {
        ResetRooms x = new ResetRooms();
        Due.box(x, "0 latch");
        Due.box(x, "1 latch");
        Due.box(x, "2 latch");
        x.setExit(3);
        due.is("open(-1)", x.open(-1, 0), Due.UNKNOWN);
        due.is("open(4)", x.open(4, 0), Due.UNKNOWN);
        due.is("no game", x.open(1, 0), Due.NOT_POSSIBLE);
        Due.play(x, 1);
        due.is("the room", x.open(0, 0), Due.NOT_POSSIBLE);
        due.is("not at hand", x.open(2, 0), Due.NOT_POSSIBLE);
        due.is("a box far in", x.open(3, 0), Due.NOT_POSSIBLE);
        due.is("open(1)", x.open(1, -77), 1);
        due.is("open again", x.open(1, 0), Due.NOT_POSSIBLE);
        due.is("a box far in", x.open(3, 0), Due.NOT_POSSIBLE);
        due.is("open(2)", x.open(2, Integer.MAX_VALUE), 1);
        due.is("open(3)", x.open(3, Integer.MIN_VALUE), 2);
        due.is("no game", x.count(14), 0);
        due.is("the exit is open", x.box(3, 2), 1);
        due.is("won", x.result(0, 4), 1);
        due.is("minutes", x.result(0, 3), 12);
    }

    private static void openingByKeyAndPlate() {
        ResetRooms x = new ResetRooms();
        x.addProp(0);
        x.addProp(0);
        Due.box(x, "0 latch");
        Due.box(x, "1 key 0");
        Due.box(x, "1 plate 1");
        Due.box(x, "0 latch");
        x.setExit(4);
        Due.play(x, 2);
        x.open(1, 0);
        due.is("its key is not held", x.open(2, 0), Due.NOT_POSSIBLE);
        x.take(0);
        x.lay(0, 1);
        due.is("its key lies in the outer box", x.open(2, 0), Due.NOT_POSSIBLE);
        x.take(0);
        due.is("its key is held", x.open(2, 5), 1);
        due.is("its prop lies in the room", x.open(3, 0), Due.NOT_POSSIBLE);
        x.take(1);
        due.is("its prop is held", x.open(3, 0), Due.NOT_POSSIBLE);
        x.lay(0, 1);
        due.is("another prop lies there", x.open(3, 0), Due.NOT_POSSIBLE);
        x.lay(1, 1);
        due.is("its prop lies in the outer box", x.open(3, 5), 1);
        due.is("open boxes", x.differences(1), 3);
    }

    private static void openingByCode() {
        ResetRooms x = codeRoom();
        Due.play(x, 1);
        int[] codes = {418, 4170, -417, 10417, 41, 0, Integer.MIN_VALUE};
        for (int i = 0; i < codes.length; i++) {
            due.is("a wrong code", x.open(1, codes[i]), 0);
            due.is("wrong codes", x.game(5), i + 1);
            due.is("it stays closed", x.box(1, 2), 0);
        }
        due.is("minutes left", x.game(2), 4);
        due.is("the code", x.open(1, 417), 2);
        Due.play(x, 1);
        x.close(1);
        Due.play(x, 1);
        x.rest(53);
        due.is("a wrong code at the end", x.open(1, 1), Due.TIME_OVER);
        due.is("lost", x.result(1, 4), 0);
        due.is("the log", Due.log(x), "0:rest 53/53:over/");
    }

    private static void reading() {
        ResetRooms x = codeRoom();
        due.is("read(-1)", x.read(-1), Due.UNKNOWN);
        due.is("read(2)", x.read(2), Due.UNKNOWN);
        due.is("no game", x.read(0), Due.NOT_POSSIBLE);
        Due.play(x, 4);
        due.is("not at hand", x.read(1), Due.NOT_POSSIBLE);
        due.is("the digit", x.read(0), 4);
        due.is("its ink", x.clue(0, 3), 8);
        due.is("what is known", x.box(1, 7), 2);
        due.is("a read again", x.read(0), 4);
        due.is("its ink", x.clue(0, 3), 7);
        due.is("what is known", x.box(1, 7), 2);
        x.giveUp();
        due.is("nothing is known without a game", x.box(1, 7), 0);
    }

    private static void paleInk() {
        ResetRooms x = codeRoom();
        Due.play(x, 1);
        for (int ink = 9; ink > 3; ink--) {
            x.read(0);
        }
        due.is("6 times 3 minutes", x.count(5), 18);
        due.is("ink", x.clue(0, 3), 3);
        x.read(0);
        due.is("6 minutes with 3 units", x.count(5), 24);
        x.read(0);
        x.read(0);
        due.is("6 minutes with 1 unit", x.count(5), 36);
        due.is("ink", x.clue(0, 3), 0);
        due.is("no ink", x.read(0), Due.NONE);
        due.is("NONE takes no time", x.count(5), 36);
        due.is("NONE is not in the log", x.count(10), "0:read 0/3:read 0/6:read 0/9:read 0/".length() + 5 * 10);
        x.rest(24);
        due.is("NONE ahead of TIME_OVER", x.read(0), Due.NONE);
        due.is("the ink does not go below 0", x.clue(0, 3), 0);
        ResetRooms y = codeRoom();
        y.idle(360);
        Due.play(y, 6);
        y.rest(59);
        due.is("2 minutes for pale ink by 6 players", y.read(0), Due.TIME_OVER);
    }

    private static void resting() {
        ResetRooms x = codeRoom();
        due.is("rest(0)", x.rest(0), Due.BAD_VALUE);
        due.is("rest(61)", x.rest(61), Due.BAD_VALUE);
        due.is("no game", x.rest(1), Due.NOT_POSSIBLE);
        Due.play(x, 6);
        due.is("rest(1)", x.rest(1), 59);
        due.is("rest(59)", x.rest(59), 0);
        due.is("rest(61) at the end", x.rest(61), Due.BAD_VALUE);
        due.is("rest(1) at the end", x.rest(1), Due.TIME_OVER);
        due.is("no game", x.rest(1), Due.NOT_POSSIBLE);
        x.setLimits(120, 0);
        Due.play(x, 1);
        due.is("rest(60) of 120", x.rest(60), 60);
    }

    private static void givingUp() {
        ResetRooms x = codeRoom();
        due.is("no game", x.giveUp(), Due.NOT_POSSIBLE);
        x.idle(11);
        Due.play(x, 1);
        x.take(0);
        x.rest(4);
        due.is("giveUp", x.giveUp(), 7);
        due.is("lost", x.result(0, 4), 0);
        due.is("minutes", x.result(0, 3), 7);
        due.is("the log", Due.log(x), "0:take 0/3:rest 4/7:up/");
        due.is("again", x.giveUp(), Due.NOT_POSSIBLE);
        due.is("the clock", x.count(5), 18);
    }

    private static void overByTime() {
        for (int act = 0; act < 6; act++) {
            ResetRooms x = codeRoom();
            x.setLimits(10, 3);
            Due.box(x, "0 latch");
            Due.play(x, 2);
            x.take(1);
            // To lay a prop takes but a minute, so it has to begin a minute later.
            int rest = act == 1 ? 8 : 7;
            x.rest(rest);
            due.is("act " + act + " at the end", lateAct(x, act), Due.TIME_OVER);
            due.is("no game", x.count(14), 0);
            due.is("the clock", x.count(5), 10);
            due.is("lost", x.result(0, 4), 0);
            due.is("minutes", x.result(0, 3), 10);
            due.is("nudges", x.result(0, 5), 0);
            due.is("the prop 0 stays", x.prop(0, 1), 0);
            due.is("the prop 1 falls", x.prop(1, 1), 0);
            due.is("the box stays", x.box(2, 2), 0);
            due.is("the ink stays", x.clue(0, 3), 9);
            due.is("the log", Due.log(x), "0:take 1/2:rest " + rest + "/" + (2 + rest) + ":over/");
        }
    }

    private static int lateAct(ResetRooms x, int act) {
        switch (act) {
            case 0: return x.take(0);
            case 1: return x.lay(1, 0);
            case 2: return x.open(2, 0);
            case 3: return x.read(0);
            case 4: return x.nudge();
            default: return x.rest(60);
        }
    }

    private static void theLastMinute() {
        ResetRooms x = Due.latchRoom();
        x.setLimits(10, 3);
        Due.play(x, 1);
        x.rest(6);
        due.is("the exit at the last minute", x.open(1, 0), 2);
        due.is("minutes", x.result(0, 3), 10);
        x.close(1);
        Due.play(x, 1);
        x.rest(7);
        due.is("a minute later", x.open(1, 0), Due.TIME_OVER);
        due.is("the minutes until the last one pass", x.count(5), 21);
        due.is("closed", x.box(1, 2), 0);
        due.is("the log", Due.log(x), "0:rest 7/7:over/");
        due.is("won", x.count(8), 1);
    }

    private static void heldPropsFall() {
        ResetRooms x = codeRoom();
        x.addProp(0);
        Due.play(x, 6);
        x.take(0);
        x.take(3);
        x.open(1, 417);
        due.is("prop 0", x.prop(0, 1), 0);
        due.is("prop 3", x.prop(3, 1), 0);
        due.is("props at home", x.differences(0), 0);
        x.reset();
        Due.play(x, 1);
        due.is("nothing is held", x.game(4), 0);
        ResetRooms y = new ResetRooms();
        Due.box(y, "0 latch");
        Due.box(y, "0 latch");
        y.addProp(1);
        y.setExit(2);
        Due.play(y, 1);
        y.open(1, 0);
        y.take(0);
        y.giveUp();
        due.is("in the room, not at home", y.prop(0, 1), 0);
        due.is("props not at home", y.differences(0), 1);
    }

    private static void logging() {
        ResetRooms x = new ResetRooms();
        for (int prop = 0; prop < 12; prop++) {
            x.addProp(0);
        }
        for (int box = 1; box < 11; box++) {
            Due.box(x, "0 latch");
        }
        Due.box(x, "10 plate 11");
        x.addClue(0, 11, 0);
        x.setExit(11);
        x.setLimits(120, 9);
        due.is("an empty log", x.logAt(0), Due.NONE);
        x.idle(7);
        Due.play(x, 1);
        x.nudge();
        x.open(10, 0);
        x.open(11, 0);
        x.take(11);
        x.nudge();
        x.rest(60);
        x.rest(30);
        x.lay(11, 10);
        x.open(11, 0);
        String log = "0:nudge 310/2:open 10/6:take 11/9:nudge 10211/11:rest 60/71:rest 30/101:lay 11 10/103:open 11/";
        due.is("the log", Due.log(x), log);
        due.is("its length", x.count(10), log.length());
        due.is("behind its end", x.logAt(log.length()), Due.NONE);
        due.is("far behind its end", x.logAt(Integer.MAX_VALUE), Due.NONE);
        due.is("logAt(-1)", x.logAt(-1), Due.BAD_VALUE);
        due.is("logAt(MIN)", x.logAt(Integer.MIN_VALUE), Due.BAD_VALUE);
        x.close(11);
        due.is("it stays between games", x.count(10), log.length());
        Due.play(x, 1);
        due.is("it is emptied", x.count(10), 0);
        due.is("nothing is left", x.logAt(0), Due.NONE);
    }

    private static void fading() {
        ResetRooms x = codeRoom();
        Due.box(x, "0 latch");
        x.idle(59);
        due.is("ink at 59", x.clue(0, 3), 9);
        x.idle(1);
        due.is("ink at 60", x.clue(0, 3), 8);
        due.is("ink in a closed box", x.clue(1, 3), 9);
        x.book(6, 240);
        x.startGame();
        due.is("ink at 240", x.clue(0, 3), 5);
        x.take(0);
        x.rest(58);
        due.is("ink at 299", x.clue(0, 3), 5);
        x.read(0);
        due.is("ink of a clue that is read and held at 300", x.clue(0, 3), 3);
        due.is("time is over", x.read(0), Due.TIME_OVER);
        due.is("ink of a clue that was not read", x.clue(0, 3), 3);
        x.idle(59);
        x.book(4, 0);
        x.startGame();
        due.is("opened at 359", x.open(1, 417), 2);
        due.is("what is in the box fades at 360", x.clue(1, 3), 8);
        x.close(1);
        x.idle(57);
        x.book(1, 0);
        x.startGame();
        due.is("2 minutes to 420", x.count(5), 419);
        x.rest(60);
        due.is("out of ink as it comes", x.clue(0, 3), 1);
        x.giveUp();
        x.idle(1000);
        due.is("no ink", x.clue(0, 3), 0);
        due.is("in the closed box", x.clue(1, 3), 8);
    }
}
