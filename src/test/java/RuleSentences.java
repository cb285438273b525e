import java.util.function.Consumer;

/** The sentences of the terms on resets, the log, texts of boxes, snapshots and errors. */
final class RuleSentences {
    private static final String FAULT = "The fault of the text is the index, from 0, of the first character with which no"
            + " such text goes on, or its length if it ends too early.";
    private static final String STATE = "A state is everything but the text and the snapshots.";

    private final Sentences s;

    RuleSentences(Sentences s) {
        this.s = s;
    }

    void run() {
        resets();
        log();
        words();
        longestLog();
        texts();
        numbers();
        faults();
        everyFault();
        snapshots();
        constants();
        errors();
    }

    private void terms(String quote, Runnable calls) {
        s.test(Sentences.TERMS, quote, calls);
    }

    private void resets() {
        terms("Between games the master brings props home, closes boxes and writes over clues, whatever is open or closed;"
                + " each of these takes 1 minute.", () -> {
            ResetRooms x = Rooms.of("0 latch", "1 latch", "0 code 1234");
            x.addProp(2);
            x.addProp(0);
            x.addClue(0, 3, 0);
            Due.play(x, 2);
            x.open(1, 0);
            x.open(2, 0);
            x.take(0);
            x.take(1);
            x.lay(1, 2);
            x.giveUp();
            x.idle(50);
            s.is("ink", x.clue(0, 3), 8);
            int clock = x.count(5);
            s.is("the outer box is closed", x.close(1), 1);
            s.is("a minute", x.count(5), clock + 1);
            s.is("a box that is not at hand is closed", x.close(2), 0);
            s.is("a minute", x.count(5), clock + 2);
            s.is("a prop goes home into closed boxes", x.putHome(0), 0);
            s.is("a minute", x.count(5), clock + 3);
            s.is("a prop goes home out of closed boxes", x.putHome(1), 2);
            s.is("a minute", x.count(5), clock + 4);
            x.addPaint(1);
            s.is("a clue in closed boxes is written over", x.writeOver(0), 1);
            s.is("a minute", x.count(5), clock + 5);
            s.is("its ink", x.clue(0, 3), 9);
        });
        terms("To write over a clue gives it 9 units of ink, and uses as many units of paint as it lacks.", () -> {
            for (int lack = 1; lack <= 9; lack++) {
                ResetRooms x = Rooms.inked(1, 1);
                x.idle(60 * lack);
                x.addPaint(20);
                s.is("paint for " + lack, x.writeOver(0), lack);
                s.is("paint that is left", x.count(6), 20 - lack);
                s.is("ink", x.clue(0, 3), 9);
            }
        });
    }

    private void log() {
        terms("There is a log of the present game, or of the latest one; it is emptied when a game starts.", () -> {
            ResetRooms x = Due.latchRoom();
            s.is("ahead of all games", Due.log(x), "");
            Due.play(x, 1);
            s.is("as a game begins", Due.log(x), "");
            x.rest(5);
            s.is("of the present game", Due.log(x), "0:rest 5/");
            x.giveUp();
            x.idle(100);
            s.is("of the latest game", Due.log(x), "0:rest 5/5:up/");
            x.book(1, 500);
            s.is("a booking leaves it", Due.log(x), "0:rest 5/5:up/");
            x.startGame();
            s.is("as the next game begins", Due.log(x), "");
            x.rest(6);
            s.is("of the next game alone", Due.log(x), "0:rest 6/");
        });
        terms("For each act of the group there is an entry: the minute of the game (the clock less the start) at which it"
                + " begins, \":\", a word, a blank and a number for each argument that is named here, and \"/\".", () -> {
            ResetRooms x = Rooms.house();
            x.idle(33);
            Due.play(x, 1);
            x.open(1, 12345);
            x.nextStep();
            x.take(23);
            x.read(1);
            x.lay(0, 0);
            x.take(0);
            x.lay(0, 1);
            x.open(3, 0);
            x.rest(59);
            s.is("acts alone, without the code", Due.log(x), "0:open 1/4:read 1/7:take 0/10:lay 0 1/12:open 3/20:over/");
        });
        terms("For example: \"0:take 3/2:open 1/\".", () -> {
            ResetRooms x = Rooms.of("0 latch", "0 latch");
            for (int prop = 0; prop < 4; prop++) {
                x.addProp(0);
            }
            Due.play(x, 2);
            x.take(3);
            x.open(1, 0);
            s.is("the log", Due.log(x), "0:take 3/2:open 1/");
        });
    }

    private void word(String quote, String want, Consumer<ResetRooms> acts) {
        terms(quote, () -> {
            ResetRooms x = Rooms.game(1);
            acts.accept(x);
            s.is("the log", Due.log(x), want);
        });
    }

    private void words() {
        word("The words are: take (the prop)", "0:take 1/", x -> x.take(1));
        word("lay (the prop, the box)", "0:open 1/4:take 1/7:lay 1 1/", x -> {
            x.open(1, 0);
            x.take(1);
            x.lay(1, 1);
        });
        word("open (the box)", "0:open 3/8:open 3/", x -> {
            x.open(3, 1);
            x.open(3, 417);
        });
        word("read (the clue)", "0:read 0/", x -> x.read(0));
        word("nudge (the step)", "0:nudge 500/2:nudge 400/", x -> {
            x.nudge();
            x.nudge();
        });
        word("rest (the minutes)", "0:rest 1/1:rest 59/", x -> {
            x.rest(1);
            x.rest(59);
        });
        word("over (nothing; in place of an act by which the game is over by time)", "0:rest 58/58:over/", x -> {
            x.rest(58);
            x.take(0);
        });
        word("up (nothing; the group gives up).", "0:rest 2/2:up/", x -> {
            x.rest(2);
            x.giveUp();
        });
        word("up (nothing; the group gives up).", "0:up/", x -> x.giveUp());
    }

    /** The longest log of all: 120 acts of a minute each. */
    private void longestLog() {
        terms("For each act of the group there is an entry", () -> {
            ResetRooms x = Rooms.latches(10);
            for (int prop = 0; prop < 24; prop++) {
                x.addProp(0);
            }
            x.setLimits(120, 9);
            Due.box(x, "0 latch");
            Due.play(x, 6);
            x.open(11, 0);
            x.take(23);
            StringBuilder log = new StringBuilder("0:open 11/1:take 23/");
            for (int minute = 2; minute < 120; minute += 2) {
                x.lay(23, 11);
                x.take(23);
                log.append(minute).append(":lay 23 11/").append(minute + 1).append(":take 23/");
            }
            s.is("time is over", x.rest(1), Due.TIME_OVER);
            log.append("120:over/");
            s.is("its length", x.count(10), log.length());
            for (int i = log.length() - 120; i < log.length(); i++) {
                s.is("logAt(" + i + ")", x.logAt(i), log.charAt(i));
            }
            s.is("behind its end", x.logAt(log.length()), Due.NONE);
        });
    }

    private void texts() {
        terms("There is a text of at most 20 characters, empty at first.", () -> {
            ResetRooms x = new ResetRooms();
            s.is("empty at first", x.count(11), 0);
            for (int length = 1; length <= 20; length++) {
                s.is("type", x.type('x'), length);
            }
            s.is("a 21st character", x.type('x'), Due.FULL);
            s.is("its length", x.count(11), 20);
        });
        terms("It tells a box: its outer box, a blank and its lock: \"latch\"; \"key\", a blank and a prop; \"code\","
                + " a blank and four digits; \"plate\", a blank and a prop.", () -> {
            ResetRooms x = new ResetRooms();
            x.addProp(0);
            x.addProp(0);
            s.is("a latch", Due.box(x, "0 latch"), 1);
            s.is("a key", Due.box(x, "1 key 1"), 2);
            s.is("a code", Due.box(x, "0 code 0036"), 3);
            s.is("a plate", Due.box(x, "3 plate 0"), 4);
            s.is("a latch behind the others", Due.box(x, "4 latch"), 5);
            int[][] wanted = {{0, 0, Due.NONE}, {1, 1, 1}, {0, 2, 36}, {3, 3, 0}, {4, 0, Due.NONE}};
            for (int box = 1; box <= 5; box++) {
                s.is("its outer box", x.box(box, 0), wanted[box - 1][0]);
                s.is("its lock", x.box(box, 1), wanted[box - 1][1]);
                s.is("what the lock needs", x.box(box, 6), wanted[box - 1][2]);
            }
        });
    }

    private void numbers() {
        terms("Numbers of boxes and props have one or two digits (00 and 07 are such, too).", () -> {
            ResetRooms x = Rooms.latches(9);
            for (int prop = 0; prop < 24; prop++) {
                x.addProp(0);
            }
            s.is("box 07, prop 07", Due.box(x, "07 key 07"), 10);
            s.is("the box 7", x.box(10, 0), 7);
            s.is("the prop 7", x.box(10, 6), 7);
            s.is("box 10, prop 23", Due.box(x, "10 plate 23"), 11);
            s.is("the box 10", x.box(11, 0), 10);
            s.is("the prop 23", x.box(11, 6), 23);
            s.is("box 00, prop 24", Due.box(x, "00 key 24"), Due.UNKNOWN);
            s.is("a third digit of a box", Due.box(x, "000 latch"), -102);
            s.is("a third digit of a prop", Due.box(x, "0 key 000"), -108);
            s.is("no digit of a box", Due.box(x, " latch"), -100);
            s.is("no digit of a prop", Due.box(x, "0 plate "), -108);
        });
        terms("(00 and 07 are such, too)", () -> {
            ResetRooms x = new ResetRooms();
            x.addProp(0);
            s.is("box 00, prop 00", Due.box(x, "00 key 00"), 1);
            s.is("the room", x.box(1, 0), 0);
            s.is("the prop 0", x.box(1, 6), 0);
        });
    }

    private void faults() {
        Object[][] rows = {
            {"", 0}, {"x", 0}, {"-1 latch", 0}, {" 0 latch", 0}, {"0", 1}, {"12", 2}, {"123 latch", 2}, {"0latch", 1},
            {"0 ", 2}, {"0  latch", 2}, {"0 Latch", 2}, {"0 a", 2}, {"0 latcH", 6}, {"0 latch ", 7}, {"00 latch", -1},
            {"00 latch0", 8}, {"0 key", 5}, {"0 key ", 6}, {"0 keys", 5}, {"0 key x", 6}, {"0 key 0x", 7}, {"0 key 000", 8},
            {"0 code 000", 10}, {"0 code 000x", 10}, {"0 code 00000", 11}, {"0 code -000", 7}, {"0 plate", 7},
            {"0 plate 0 ", 9}, {"0 plate 00 latch", 10}, {"0 pkey 0", 3}, {"0 kcode", 3}, {"01234567890123456789", 2},
            {"00 code 123456789012", 12}, {"0 latch             ", 7}, {"99 latch!", 8}, {"99 key 99!", 9}};
        for (Object[] row : rows) {
            terms(FAULT, () -> {
                ResetRooms x = new ResetRooms();
                int fault = (int) row[1];
                s.is("\"" + row[0] + "\"", Due.box(x, (String) row[0]), fault < 0 ? 1 : -100 - fault);
            });
        }
    }

    /** Each text that goes right up to a place and has any other character there has its fault there. */
    private void everyFault() {
        String[] texts = {"0 latch", "10 key 23", "07 code 9081", "3 plate 0"};
        terms(FAULT, () -> {
            for (String text : texts) {
                for (int end = 0; end < text.length(); end++) {
                    String begin = text.substring(0, end);
                    if (!begin.matches(".* key [0-9]|.* plate [0-9]")) {
                        s.is("\"" + begin + "\"", Due.box(new ResetRooms(), begin), -100 - end);
                    }
                    for (int character = 0; character < 256; character++) {
                        wrongCharacter(begin, (char) character);
                    }
                    wrongCharacter(begin, (char) ('0' + 256));
                    wrongCharacter(begin, (char) (text.charAt(end) + 0x100));
                    wrongCharacter(begin, (char) 0xFFFF);
                }
                wrongCharacter(text + (text.endsWith("0") ? "0" : ""), '0');
            }
        });
    }

    private void wrongCharacter(String begin, char character) {
        if (!Model.goesOn(begin + character)) {
            int fault = Due.box(new ResetRooms(), begin + character + "7");
            s.is("\"" + begin + "\" and the character " + (int) character, fault, -100 - begin.length());
        }
    }

    private void snapshots() {
        terms("There are two slots for snapshots, empty at first.", () -> {
            ResetRooms x = Rooms.house();
            s.is("restore(0)", x.restore(0), Due.NONE);
            s.is("restore(1)", x.restore(1), Due.NONE);
            s.is("keep(0)", x.keep(0), 0);
            s.is("the other slot is empty still", x.restore(1), Due.NONE);
            x.idle(3);
            s.is("keep(1)", x.keep(1), 3);
            s.is("keep(2)", x.keep(2), Due.UNKNOWN);
            s.is("restore(0)", x.restore(0), 0);
            s.is("restore(1)", x.restore(1), 3);
        });
        terms(STATE, () -> {
            ResetRooms x = Rooms.played();
            x.keep(0);
            String kept = Told.state(x);
            changeAll(x);
            s.is("restore(0)", x.restore(0), 10);
            s.is("all that is told", Told.state(x), kept);
        });
        terms(STATE, () -> {
            ResetRooms x = new ResetRooms();
            x.keep(1);
            lateGame(x);
            x.keep(0);
            String kept = Told.state(x);
            x.restore(1);
            s.is("all that is told of a new room", Told.state(x), Told.state(new ResetRooms()));
            otherGame(x);
            s.is("restore(0)", x.restore(0), 114);
            s.is("all that is told of another game", Told.state(x), kept);
            s.is("the hands of the players", x.take(0) * 10 + x.take(1), 23);
            s.is("minutes of the game", x.giveUp(), 22);
            s.is("its wanted start and its differences", x.result(1, 1) * 10 + x.result(1, 6), 801);
        });
        terms(STATE, () -> {
            ResetRooms x = Rooms.game(3);
            x.take(0);
            x.read(0);
            x.open(3, 1);
            x.nudge();
            x.keep(1);
            String kept = Told.state(x);
            x.take(1);
            x.read(0);
            x.open(3, 2);
            x.nudge();
            x.nudge();
            x.open(3, 417);
            x.restore(1);
            s.is("all that is told in a game", Told.state(x), kept);
        });
        terms(STATE, () -> {
            ResetRooms x = new ResetRooms();
            Due.type(x, "0 latch");
            x.keep(0);
            x.clearText();
            x.keep(1);
            x.type('7');
            x.restore(0);
            s.is("the text stays as it is", x.count(11), 1);
            Due.type(x, "0 code 9999");
            x.restore(1);
            s.is("the text stays as it is", x.addBox(), 1);
            s.is("its code", x.box(1, 6), 9999);
        });
        terms(STATE, () -> {
            ResetRooms x = Rooms.house();
            x.keep(0);
            x.idle(1);
            x.keep(1);
            s.is("restore(0)", x.restore(0), 0);
            s.is("the other snapshot stays", x.restore(1), 1);
            x.idle(1);
            x.keep(0);
            x.restore(1);
            s.is("a snapshot that is later than the restored state stays", x.restore(0), 2);
        });
    }

    /** A second game, of three players who come behind; two groups wait. */
    private static void lateGame(ResetRooms x) {
        x.addProp(0);
        x.addProp(0);
        Due.box(x, "0 code 0417");
        Due.box(x, "1 latch");
        Due.box(x, "2 key 1");
        Due.box(x, "0 code 5555");
        x.addProp(2);
        x.addClue(0, 1, 2);
        x.setExit(3);
        x.setLimits(50, 5);
        x.book(2, 60);
        x.book(3, 80);
        x.book(4, 81);
        x.book(5, 99);
        x.startGame();
        x.nudge();
        x.rest(29);
        x.open(1, 417);
        x.giveUp();
        x.addPaint(9);
        x.idle(2);
        x.startGame();
        x.nudge();
        x.open(2, 0);
        x.open(4, 1);
        x.take(2);
        x.rest(5);
    }

    /** A game in a room that is another one in all that a room has. */
    private static void otherGame(ResetRooms x) {
        Due.box(x, "0 latch");
        Due.box(x, "0 code 9999");
        x.addProp(1);
        x.addProp(2);
        x.addProp(1);
        Due.box(x, "0 plate 2");
        x.addClue(1, 2, 0);
        x.addClue(2, 2, 1);
        x.setExit(2);
        x.book(1, 7);
        x.startGame();
        x.nudge();
        x.rest(2);
        x.giveUp();
        x.book(1, 3);
        x.book(1, 500);
        x.book(6, 700);
        x.startGame();
        x.open(1, 0);
        x.take(0);
        x.nudge();
        x.nudge();
        x.open(2, 1);
    }

    private static void changeAll(ResetRooms x) {
        x.close(1);
        x.putHome(2);
        x.addProp(3);
        x.addClue(1, 3, 2);
        Due.box(x, "3 latch");
        x.setExit(1);
        x.setLimits(100, 7);
        x.addPaint(50);
        x.idle(500);
        Due.play(x, 4);
        x.take(1);
        x.read(0);
        x.open(1, 0);
        x.book(5, 7000);
        x.book(5, 7001);
    }

    private void constants() {
        terms("Errors are reported by the constants below.", () -> {
            s.is("UNKNOWN", ResetRooms.UNKNOWN, -1);
            s.is("BAD_VALUE", ResetRooms.BAD_VALUE, -2);
            s.is("FULL", ResetRooms.FULL, -3);
            s.is("NOT_POSSIBLE", ResetRooms.NOT_POSSIBLE, -4);
            s.is("NONE", ResetRooms.NONE, -5);
            s.is("TIME_OVER", ResetRooms.TIME_OVER, -6);
        });
        terms("There is no such box, prop, clue, group, result or slot.", () -> {
            ResetRooms x = Rooms.house();
            s.is("box", x.box(5, 0), ResetRooms.UNKNOWN);
            s.is("prop", x.prop(3, 0), ResetRooms.UNKNOWN);
            s.is("clue", x.clue(2, 0), ResetRooms.UNKNOWN);
            s.is("group", x.group(0, 0), ResetRooms.UNKNOWN);
            s.is("result", x.result(0, 0), ResetRooms.UNKNOWN);
            s.is("slot", x.keep(2), ResetRooms.UNKNOWN);
        });
        terms("Another argument is out of range.", () -> {
            s.is("what", Rooms.house().count(15), ResetRooms.BAD_VALUE);
        });
        terms("There is no more room.", () -> {
            s.is("clues", Rooms.inked(1, 12).addClue(0, 1, 0), ResetRooms.FULL);
        });
        terms("This is not possible.", () -> {
            s.is("no game", Rooms.house().rest(1), ResetRooms.NOT_POSSIBLE);
        });
        terms("There is no such thing; not an error.", () -> {
            s.is("no exit", new ResetRooms().count(9), ResetRooms.NONE);
        });
        terms("The game is over by time; not an error.", () -> {
            s.is("61 minutes", Rooms.gameWith(1, 0).rest(1), ResetRooms.TIME_OVER);
        });
    }

    private void errors() {
        terms("Where several errors can apply, the order of the @return line is the order of the checks.", () -> {
            ResetRooms x = Rooms.game(1);
            x.take(0);
            s.is("UNKNOWN ahead of FULL", x.take(9), Due.UNKNOWN);
            s.is("NOT_POSSIBLE ahead of FULL", x.take(2), Due.NOT_POSSIBLE);
            s.is("UNKNOWN ahead of BAD_VALUE ahead of NOT_POSSIBLE", x.addClue(9, 3, 9), Due.UNKNOWN);
            s.is("BAD_VALUE ahead of NOT_POSSIBLE", x.addClue(0, 3, 9), Due.BAD_VALUE);
        });
        terms("NONE and TIME_OVER are returned only if no error applies.", () -> {
            ResetRooms x = Rooms.game(1);
            s.is("NOT_POSSIBLE ahead of NONE", x.close(1), Due.NOT_POSSIBLE);
            x.rest(60);
            s.is("UNKNOWN ahead of TIME_OVER", x.take(9), Due.UNKNOWN);
            s.is("NOT_POSSIBLE ahead of TIME_OVER", x.take(2), Due.NOT_POSSIBLE);
            s.is("BAD_VALUE ahead of TIME_OVER", x.rest(0), Due.BAD_VALUE);
            s.is("no error", x.take(0), Due.TIME_OVER);
        });
        terms("A call that reports an error or NONE changes nothing.", () -> {
            s.refused("addBox() of a fault", () -> typed("0 latch,"), ResetRooms::addBox, -107);
            s.refused("take(2)", () -> Rooms.game(2), x -> x.take(2), Due.NOT_POSSIBLE);
            s.refused("close(1)", Rooms::house, x -> x.close(1), Due.NONE);
            s.refused("nudge()", () -> Rooms.circle(1), ResetRooms::nudge, Due.NONE);
        });
    }

    private static ResetRooms typed(String text) {
        ResetRooms x = Rooms.house();
        Due.type(x, text);
        return x;
    }
}
