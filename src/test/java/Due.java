/** What the tests share: counts the answers that are not as due, and builds rooms. */
final class Due {
    static final int UNKNOWN = -1;
    static final int BAD_VALUE = -2;
    static final int FULL = -3;
    static final int NOT_POSSIBLE = -4;
    static final int NONE = -5;
    static final int TIME_OVER = -6;

    private final String test;
    private int wrong;

    Due(String test) {
        this.test = test;
    }

    void is(String call, long got, long want) {
        if (got != want) {
            wrong++;
            System.out.println(test + ": " + call + " answered " + got + ", due is " + want);
        }
    }

    void is(String call, String got, String want) {
        if (!got.equals(want)) {
            wrong++;
            System.out.println(test + ": " + call + " answered \"" + got + "\", due is \"" + want + "\"");
        }
    }

    void end() {
        System.out.println(test + ": " + (wrong == 0 ? "all answers are as due" : wrong + " answers are not as due"));
        if (wrong != 0) {
            System.exit(1);
        }
    }

    static void type(ResetRooms x, String text) {
        x.clearText();
        for (int i = 0; i < text.length(); i++) {
            x.type(text.charAt(i));
        }
    }

    /** Adds a box by its text. */
    static int box(ResetRooms x, String text) {
        type(x, text);
        return x.addBox();
    }

    static String log(ResetRooms x) {
        StringBuilder log = new StringBuilder();
        int length = x.count(10);
        for (int i = 0; i < length; i++) {
            log.append((char) x.logAt(i));
        }
        return log.toString();
    }

    /** Books a group that wants to start now, and starts its game. */
    static int play(ResetRooms x, int players) {
        x.book(players, x.count(5));
        return x.startGame();
    }

    /** A room whose only further box, the exit, has a latch. */
    static ResetRooms latchRoom() {
        ResetRooms x = new ResetRooms();
        box(x, "0 latch");
        x.setExit(1);
        return x;
    }
}
