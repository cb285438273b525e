/** Promises 1 to 9: what there is. */
final class BuildTest {
    private static final Due due = new Due("BuildTest");

    public static void main(String[] args) {
        newObject();
        typing();
        faults();
        boxesOfTexts();
        boxErrors();
        props();
        clues();
        exit();
        limits();
        paint();
        due.end();
    }

    private static void newObject() {
        ResetRooms x = new ResetRooms();
        int[] counts = {1, 0, 0, 0, 0, 0, 0, 0, 0, Due.NONE, 0, 0, 60, 3, 0};
        for (int what = 0; what < counts.length; what++) {
            due.is("count(" + what + ") of a new room", x.count(what), counts[what]);
        }
        int[] room = {Due.NONE, Due.NONE, 1, 1, 0, 0, Due.NONE, 0};
        for (int what = 0; what < room.length; what++) {
            due.is("box(0, " + what + ") of a new room", x.box(0, what), room[what]);
        }
        for (int what = 0; what < 5; what++) {
            due.is("differences(" + what + ") of a new room", x.differences(what), 0);
        }
        due.is("prop(0, 0)", x.prop(0, 0), Due.UNKNOWN);
        due.is("clue(0, 0)", x.clue(0, 0), Due.UNKNOWN);
        due.is("group(0, 0)", x.group(0, 0), Due.UNKNOWN);
        due.is("result(0, 0)", x.result(0, 0), Due.UNKNOWN);
        due.is("restore(0)", x.restore(0), Due.NONE);
        due.is("restore(1)", x.restore(1), Due.NONE);
    }

    private static void typing() {
        ResetRooms x = new ResetRooms();
        due.is("clearText() of an empty text", x.clearText(), 0);
        for (int i = 1; i <= 20; i++) {
            due.is("type", x.type((char) (i * 3000)), i);
        }
        due.is("type at 20", x.type('0'), Due.FULL);
        due.is("count(11) at 20", x.count(11), 20);
        due.is("clearText at 20", x.clearText(), 20);
        due.is("count(11) after clearText", x.count(11), 0);
        due.is("clearText again", x.clearText(), 0);
        due.is("type after clearText", x.type((char) 0), 1);
        due.is("type the last character of all", x.type((char) 0xFFFF), 2);
    }

    private static void fault(ResetRooms x, String text, int fault) {
        due.is("addBox() of \"" + text + "\"", Due.box(x, text), -100 - fault);
    }

    private static void faults() {
        ResetRooms x = new ResetRooms();
        fault(x, "", 0);
        fault(x, "x", 0);
        fault(x, " 0 latch", 0);
        fault(x, "-1 latch", 0);
        fault(x, "/ latch", 0);
        fault(x, ": latch", 0);
        fault(x, (char) 0xFF10 + " latch", 0);
        fault(x, (char) (256 + '0') + " latch", 0);
        fault(x, "0", 1);
        fault(x, "0latch", 1);
        fault(x, "00", 2);
        fault(x, "000 latch", 2);
        fault(x, "0 ", 2);
        fault(x, "0  latch", 2);
        fault(x, "0 Latch", 2);
        fault(x, "0 0", 2);
        fault(x, "0 l", 3);
        fault(x, "0 key", 5);
        fault(x, "0 keg", 4);
        fault(x, "0 lkey 0", 3);
        fault(x, "0 pkey", 3);
        fault(x, "0 latc", 6);
        fault(x, "0 latch ", 7);
        fault(x, "0 latch0", 7);
        fault(x, "0 latchx", 7);
        fault(x, "0 key ", 6);
        fault(x, "0 key x", 6);
        fault(x, "0 key  1", 6);
        fault(x, "0 key 0 ", 7);
        fault(x, "0 key 123", 8);
        fault(x, "00 key 12x", 9);
        fault(x, "0 code", 6);
        fault(x, "0 code ", 7);
        fault(x, "0 code 123", 10);
        fault(x, "0 code 12a4", 9);
        fault(x, "0 code 12345", 11);
        fault(x, "00 code 12345678901", 12);
        fault(x, "0 plate", 7);
        fault(x, "0 plate ", 8);
        fault(x, "0 plate 000", 10);
        fault(x, "99 plate 99 ", 11);
        fault(x, "0 late 00", 5);
        due.is("boxes after faults", x.count(0), 1);
        due.is("the text stays after a fault", x.count(11), 9);
    }

    private static void boxesOfTexts() {
        ResetRooms x = new ResetRooms();
        x.addProp(0);
        due.is("0 latch", Due.box(x, "0 latch"), 1);
        due.is("the text stays", x.count(11), 7);
        due.is("0 latch again", x.addBox(), 2);
        due.is("00 key 00", Due.box(x, "00 key 00"), 3);
        due.is("01 code 0070", Due.box(x, "01 code 0070"), 4);
        due.is("4 plate 0", Due.box(x, "4 plate 0"), 5);
        int[][] wanted = {
            {0, 0, 0, 1, 0, 1, Due.NONE, 0}, {0, 0, 0, 1, 0, 0, Due.NONE, 0}, {0, 1, 0, 1, 0, 0, 0, 0},
            {1, 2, 0, 0, 0, 1, 70, 0}, {4, 3, 0, 0, 0, 0, 0, 0}};
        for (int box = 1; box <= 5; box++) {
            for (int what = 0; what < 8; what++) {
                due.is("box(" + box + ", " + what + ")", x.box(box, what), wanted[box - 1][what]);
            }
        }
        for (int prop = 1; prop < 24; prop++) {
            x.addProp(5);
        }
        for (int box = 6; box < 10; box++) {
            Due.box(x, "0 latch");
        }
        due.is("9 key 23", Due.box(x, "9 key 23"), 10);
        due.is("its key", x.box(10, 6), 23);
        due.is("10 plate 17", Due.box(x, "10 plate 17"), 11);
        due.is("its outer box", x.box(11, 0), 10);
        due.is("its prop", x.box(11, 6), 17);
    }

    private static void boxErrors() {
        ResetRooms x = new ResetRooms();
        due.is("fault ahead of UNKNOWN", Due.box(x, "9 key"), -105);
        due.is("1 latch", Due.box(x, "1 latch"), Due.UNKNOWN);
        due.is("99 latch", Due.box(x, "99 latch"), Due.UNKNOWN);
        due.is("0 key 0", Due.box(x, "0 key 0"), Due.UNKNOWN);
        due.is("0 plate 0", Due.box(x, "0 plate 0"), Due.UNKNOWN);
        due.is("1 code 9999", Due.box(x, "1 code 9999"), Due.UNKNOWN);
        due.is("0 code 9999", Due.box(x, "0 code 9999"), 1);
        x.addProp(1);
        due.is("0 key 1", Due.box(x, "0 key 1"), Due.UNKNOWN);
        due.is("0 plate 99", Due.box(x, "0 plate 99"), Due.UNKNOWN);
        x.setExit(1);
        Due.play(x, 1);
        due.is("UNKNOWN in a game", Due.box(x, "5 latch"), Due.UNKNOWN);
        due.is("fault in a game", Due.box(x, "5 latch,"), -107);
        due.is("in a game", Due.box(x, "0 latch"), Due.NOT_POSSIBLE);
        due.is("boxes after errors", x.count(0), 2);
        x.giveUp();
        for (int box = 2; box < 12; box++) {
            due.is("0 latch", Due.box(x, "0 latch"), box);
        }
        due.is("the 13th box", Due.box(x, "11 latch"), Due.FULL);
        due.is("UNKNOWN ahead of FULL", Due.box(x, "12 latch"), Due.UNKNOWN);
        Due.play(x, 1);
        due.is("NOT_POSSIBLE ahead of FULL", Due.box(x, "11 latch"), Due.NOT_POSSIBLE);
        due.is("boxes", x.count(0), 12);
    }

    private static void props() {
        ResetRooms x = Due.latchRoom();
        due.is("addProp(-1)", x.addProp(-1), Due.UNKNOWN);
        due.is("addProp(2)", x.addProp(2), Due.UNKNOWN);
        due.is("addProp(0)", x.addProp(0), 0);
        due.is("addProp(1)", x.addProp(1), 1);
        due.is("home", x.prop(1, 0), 1);
        due.is("place", x.prop(1, 1), 1);
        Due.play(x, 1);
        due.is("addProp(2) in a game", x.addProp(2), Due.UNKNOWN);
        due.is("addProp(0) in a game", x.addProp(0), Due.NOT_POSSIBLE);
        x.giveUp();
        for (int prop = 2; prop < 24; prop++) {
            due.is("addProp(0)", x.addProp(0), prop);
        }
        due.is("the 25th prop", x.addProp(0), Due.FULL);
        due.is("UNKNOWN ahead of FULL", x.addProp(12), Due.UNKNOWN);
        Due.play(x, 1);
        due.is("NOT_POSSIBLE ahead of FULL", x.addProp(0), Due.NOT_POSSIBLE);
        due.is("props", x.count(1), 24);
    }

    private static void clues() {
        ResetRooms x = new ResetRooms();
        x.addProp(0);
        Due.box(x, "0 code 4071");
        Due.box(x, "0 latch");
        Due.box(x, "0 key 0");
        Due.box(x, "0 plate 0");
        x.setExit(1);
        due.is("prop -1", x.addClue(-1, 1, 0), Due.UNKNOWN);
        due.is("prop 1", x.addClue(1, 1, 0), Due.UNKNOWN);
        due.is("box -1", x.addClue(0, -1, 0), Due.UNKNOWN);
        due.is("box 5", x.addClue(0, 5, 4), Due.UNKNOWN);
        due.is("place -1", x.addClue(0, 1, -1), Due.BAD_VALUE);
        due.is("place 4", x.addClue(0, 1, 4), Due.BAD_VALUE);
        due.is("BAD_VALUE ahead of NOT_POSSIBLE", x.addClue(0, 2, 4), Due.BAD_VALUE);
        due.is("the room", x.addClue(0, 0, 0), Due.NOT_POSSIBLE);
        due.is("a latch", x.addClue(0, 2, 0), Due.NOT_POSSIBLE);
        due.is("a key", x.addClue(0, 3, 0), Due.NOT_POSSIBLE);
        due.is("a plate", x.addClue(0, 4, 0), Due.NOT_POSSIBLE);
        due.is("clues after errors", x.count(2), 0);
        int[] digits = {4, 0, 7, 1};
        for (int place = 0; place < 4; place++) {
            due.is("addClue", x.addClue(0, 1, place), place);
            int[] wanted = {0, 1, place, 9, digits[place], 1};
            for (int what = 0; what < 6; what++) {
                due.is("clue(" + place + ", " + what + ")", x.clue(place, what), wanted[what]);
            }
        }
        Due.play(x, 1);
        due.is("in a game", x.addClue(0, 1, 0), Due.NOT_POSSIBLE);
        x.giveUp();
        for (int clue = 4; clue < 12; clue++) {
            due.is("addClue", x.addClue(0, 1, 0), clue);
        }
        due.is("the 13th clue", x.addClue(0, 1, 0), Due.FULL);
        due.is("NOT_POSSIBLE ahead of FULL", x.addClue(0, 2, 0), Due.NOT_POSSIBLE);
        due.is("clues", x.count(2), 12);
    }

    private static void exit() {
        ResetRooms x = new ResetRooms();
        Due.box(x, "0 latch");
        Due.box(x, "1 latch");
        due.is("setExit(-1)", x.setExit(-1), Due.UNKNOWN);
        due.is("setExit(3)", x.setExit(3), Due.UNKNOWN);
        due.is("setExit(0)", x.setExit(0), Due.BAD_VALUE);
        due.is("no exit", x.count(9), Due.NONE);
        due.is("setExit(2)", x.setExit(2), 0);
        due.is("setExit(2) again", x.setExit(2), Due.NONE);
        due.is("setExit(1)", x.setExit(1), 2);
        due.is("the exit", x.count(9), 1);
        Due.play(x, 1);
        due.is("the room in a game", x.setExit(0), Due.BAD_VALUE);
        due.is("in a game", x.setExit(2), Due.NOT_POSSIBLE);
        due.is("the same in a game", x.setExit(1), Due.NOT_POSSIBLE);
        due.is("the exit stays", x.count(9), 1);
    }

    private static void limits() {
        ResetRooms x = Due.latchRoom();
        due.is("9 minutes", x.setLimits(9, 3), Due.BAD_VALUE);
        due.is("121 minutes", x.setLimits(121, 3), Due.BAD_VALUE);
        due.is("-1 nudges", x.setLimits(60, -1), Due.BAD_VALUE);
        due.is("10 nudges", x.setLimits(60, 10), Due.BAD_VALUE);
        due.is("as it is", x.setLimits(60, 3), Due.NONE);
        due.is("other nudges", x.setLimits(60, 0), 60);
        due.is("nudges", x.count(13), 0);
        due.is("10, 9", x.setLimits(10, 9), 60);
        due.is("120, 9", x.setLimits(120, 9), 10);
        due.is("limit", x.count(12), 120);
        due.is("nudges", x.count(13), 9);
        Due.play(x, 1);
        due.is("BAD_VALUE in a game", x.setLimits(9, 9), Due.BAD_VALUE);
        due.is("in a game", x.setLimits(60, 3), Due.NOT_POSSIBLE);
        due.is("the same in a game", x.setLimits(120, 9), Due.NOT_POSSIBLE);
        due.is("limit", x.count(12), 120);
    }

    private static void paint() {
        ResetRooms x = Due.latchRoom();
        due.is("addPaint(0)", x.addPaint(0), Due.BAD_VALUE);
        due.is("addPaint(1001)", x.addPaint(1001), Due.BAD_VALUE);
        due.is("addPaint(1)", x.addPaint(1), 1);
        due.is("addPaint(1000)", x.addPaint(1000), 1001);
        Due.play(x, 1);
        due.is("addPaint(5) in a game", x.addPaint(5), 1006);
        due.is("paint", x.count(6), 1006);
    }
}
