/** Promises 27 to 29 and 37: what is told of boxes, props, clues and numbers. */
final class ToldTest {
    private static final Due due = new Due("ToldTest");

    public static void main(String[] args) {
        errors();
        boxes();
        props();
        clues();
        digits();
        counts();
        due.end();
    }

    private static ResetRooms room() {
        ResetRooms x = new ResetRooms();
        x.addProp(0);
        x.addProp(0);
        Due.box(x, "0 key 1");
        Due.box(x, "1 plate 1");
        Due.box(x, "1 code 0080");
        Due.box(x, "0 plate 0");
        x.addProp(2);
        x.addClue(1, 3, 2);
        x.addClue(2, 3, 0);
        x.addClue(1, 3, 0);
        x.setExit(3);
        return x;
    }

    private static void errors() {
        ResetRooms x = room();
        int[] numbers = {-1, 5, Integer.MAX_VALUE, Integer.MIN_VALUE};
        for (int number : numbers) {
            due.is("box", x.box(number, 9), Due.UNKNOWN);
            due.is("prop", x.prop(number, 9), Due.UNKNOWN);
            due.is("clue", x.clue(number, 9), Due.UNKNOWN);
            due.is("box", x.box(number, 0), Due.UNKNOWN);
            due.is("prop", x.prop(number, 0), Due.UNKNOWN);
            due.is("clue", x.clue(number, 0), Due.UNKNOWN);
        }
        due.is("prop(3, 0)", x.prop(3, 0), Due.UNKNOWN);
        due.is("clue(3, 0)", x.clue(3, 0), Due.UNKNOWN);
        due.is("box(0, 8)", x.box(0, 8), Due.BAD_VALUE);
        due.is("box(1, -1)", x.box(1, -1), Due.BAD_VALUE);
        due.is("prop(0, 5)", x.prop(0, 5), Due.BAD_VALUE);
        due.is("prop(0, -1)", x.prop(0, -1), Due.BAD_VALUE);
        due.is("clue(0, 6)", x.clue(0, 6), Due.BAD_VALUE);
        due.is("clue(0, -1)", x.clue(0, -1), Due.BAD_VALUE);
        due.is("count(-1)", x.count(-1), Due.BAD_VALUE);
        due.is("count(15)", x.count(15), Due.BAD_VALUE);
    }

    private static void table(String what, int[] got, int[] wanted) {
        for (int i = 0; i < wanted.length; i++) {
            due.is(what + ", " + i, got[i], wanted[i]);
        }
    }

    private static int[] box(ResetRooms x, int box) {
        int[] told = new int[8];
        for (int what = 0; what < 8; what++) {
            told[what] = x.box(box, what);
        }
        return told;
    }

    private static int[] prop(ResetRooms x, int prop) {
        int[] told = new int[5];
        for (int what = 0; what < 5; what++) {
            told[what] = x.prop(prop, what);
        }
        return told;
    }

    private static int[] clue(ResetRooms x, int clue) {
        int[] told = new int[6];
        for (int what = 0; what < 6; what++) {
            told[what] = x.clue(clue, what);
        }
        return told;
    }

    private static void boxes() {
        ResetRooms x = room();
        table("the room", box(x, 0), new int[] {Due.NONE, Due.NONE, 1, 1, 2, 2, Due.NONE, 0});
        table("box 1", box(x, 1), new int[] {0, 1, 0, 1, 0, 2, 1, 0});
        table("box 2", box(x, 2), new int[] {1, 3, 0, 0, 1, 0, 1, 0});
        table("box 3", box(x, 3), new int[] {1, 2, 0, 0, 0, 0, 80, 0});
        table("box 4", box(x, 4), new int[] {0, 3, 0, 1, 0, 0, 0, 0});
        Due.play(x, 2);
        x.take(1);
        x.open(1, 0);
        x.read(0);
        table("the room in a game", box(x, 0), new int[] {Due.NONE, Due.NONE, 1, 1, 1, 2, Due.NONE, 0});
        table("box 1 in a game", box(x, 1), new int[] {0, 1, 1, 1, 0, 2, 1, 0});
        table("box 2 in a game", box(x, 2), new int[] {1, 3, 0, 1, 1, 0, 1, 0});
        table("box 3 in a game", box(x, 3), new int[] {1, 2, 0, 1, 0, 0, 80, 4});
        x.giveUp();
        table("box 3 after it", box(x, 3), new int[] {1, 2, 0, 1, 0, 0, 80, 0});
    }

    private static void props() {
        ResetRooms x = room();
        table("prop 0", prop(x, 0), new int[] {0, 0, 1, 0, 1});
        table("prop 1", prop(x, 1), new int[] {0, 0, 1, 2, 2});
        table("prop 2", prop(x, 2), new int[] {2, 2, 0, 1, 0});
        Due.play(x, 2);
        x.take(1);
        table("prop 1 is held", prop(x, 1), new int[] {0, Due.NONE, 1, 2, 2});
        x.open(1, 0);
        due.is("a box in between is closed", x.prop(2, 2), 0);
        x.lay(1, 1);
        table("prop 1 in box 1", prop(x, 1), new int[] {0, 1, 1, 2, 2});
        x.open(2, 0);
        due.is("all boxes are open", x.prop(2, 2), 1);
        x.giveUp();
        x.close(1);
        due.is("the outermost box is closed", x.prop(2, 2), 0);
        due.is("and its clue", x.clue(1, 5), 0);
    }

    private static void clues() {
        ResetRooms x = room();
        table("clue 0", clue(x, 0), new int[] {1, 3, 2, 9, 8, 1});
        table("clue 1", clue(x, 1), new int[] {2, 3, 0, 9, 0, 0});
        table("clue 2", clue(x, 2), new int[] {1, 3, 0, 9, 0, 1});
        Due.play(x, 6);
        x.read(0);
        x.take(1);
        x.open(1, 0);
        x.lay(1, 1);
        x.open(2, 0);
        table("clue 0 in a game", clue(x, 0), new int[] {1, 3, 2, 8, 8, 1});
        table("clue 1 in a game", clue(x, 1), new int[] {2, 3, 0, 9, 0, 1});
    }

    private static void digits() {
        String[] codes = {"9876", "1000", "0100", "0010", "0001", "9999", "0999"};
        for (String code : codes) {
            ResetRooms x = new ResetRooms();
            x.addProp(0);
            Due.box(x, "0 code " + code);
            due.is("the code " + code, x.box(1, 6), Integer.parseInt(code));
            for (int place = 0; place < 4; place++) {
                x.addClue(0, 1, place);
                due.is("digit " + place + " of " + code, x.clue(place, 4), code.charAt(place) - '0');
            }
        }
    }

    private static void counts() {
        ResetRooms x = room();
        x.addPaint(11);
        x.setLimits(90, 4);
        x.book(2, 10);
        x.book(2, 20);
        x.book(2, 21);
        x.idle(21);
        x.startGame();
        x.take(1);
        int[] wanted = {5, 3, 3, 2, 2, 23, 11, 0, 0, 3, 9, 9, 90, 4, 1};
        for (int what = 0; what < wanted.length; what++) {
            due.is("count(" + what + ")", x.count(what), wanted[what]);
        }
        x.open(1, 0);
        x.open(3, 80);
        int[] after = {5, 3, 3, 2, 2, 29, 11, 1, 1, 3, 27, 9, 90, 4, 0};
        for (int what = 0; what < after.length; what++) {
            due.is("count(" + what + ") after it", x.count(what), after[what]);
        }
    }
}
