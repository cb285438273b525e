/** The rooms with which the tests of sentences begin. */
final class Rooms {
    private Rooms() {
    }

    /** Nothing but boxes, by their texts; the last one is the exit. */
    static ResetRooms of(String... texts) {
        ResetRooms x = new ResetRooms();
        for (String text : texts) {
            Due.box(x, text);
        }
        x.setExit(texts.length);
        return x;
    }

    /**
     * The props 0 and 1 lie in the room, the prop 2 in the box 1, which has a latch. The box 2 stands in it
     * and has the key 0. The box 3, the exit, has the code 0417, the box 4 the prop 1 on its plate. The clues
     * 0 and 1 are on the props 0 and 2 and tell the places 1 and 3 of the code.
     */
    static ResetRooms house() {
        ResetRooms x = new ResetRooms();
        x.addProp(0);
        x.addProp(0);
        Due.box(x, "0 latch");
        Due.box(x, "1 key 0");
        Due.box(x, "0 code 0417");
        Due.box(x, "0 plate 1");
        x.addProp(1);
        x.addClue(0, 3, 1);
        x.addClue(2, 3, 3);
        x.setExit(3);
        return x;
    }

    /** The house in a game of so many players that has just begun. */
    static ResetRooms game(int players) {
        ResetRooms x = house();
        Due.play(x, players);
        return x;
    }

    /** The house in a game that can last but so many minutes more. */
    static ResetRooms gameWith(int players, int minutes) {
        ResetRooms x = game(players);
        pass(x, 60 - minutes);
        return x;
    }

    /** Lets the group rest. */
    static void pass(ResetRooms x, int minutes) {
        if (minutes > 0) {
            x.rest(minutes);
        }
    }

    /** The house behind a lost game: the box 1 is open, the prop 2 lies in the room, it is the minute 10. */
    static ResetRooms played() {
        ResetRooms x = game(1);
        x.open(1, 0);
        x.take(2);
        x.rest(3);
        x.giveUp();
        return x;
    }

    /** So many props in the room, each with one of the first so many clues, in turn for the places 0 to 3 of the exit. */
    static ResetRooms inked(int props, int clues) {
        ResetRooms x = of("0 code 5678");
        for (int prop = 0; prop < props; prop++) {
            x.addProp(0);
        }
        for (int clue = 0; clue < clues; clue++) {
            x.addClue(clue % props, 1, clue % 4);
        }
        return x;
    }

    /** As many groups as told, of one player each, that want to start at the minute 50. */
    static ResetRooms booked(int groups) {
        ResetRooms x = house();
        for (int group = 0; group < groups; group++) {
            x.book(1, 50);
        }
        return x;
    }

    /** A latch room with so many results of games that lasted no minute. */
    static ResetRooms results(int games) {
        ResetRooms x = Due.latchRoom();
        for (int game = 0; game < games; game++) {
            Due.play(x, 1);
            x.giveUp();
        }
        return x;
    }

    /** As many boxes with a latch in the room as told, the last one is the exit. */
    static ResetRooms latches(int boxes) {
        ResetRooms x = new ResetRooms();
        Due.type(x, "0 latch");
        for (int box = 0; box < boxes; box++) {
            x.addBox();
        }
        x.setExit(boxes);
        return x;
    }

    /** A chain of boxes with latches, each in the one before it; the last one is the exit. */
    static ResetRooms chain(int boxes) {
        ResetRooms x = new ResetRooms();
        for (int outer = 0; outer < boxes; outer++) {
            Due.box(x, outer + " latch");
        }
        x.setExit(boxes);
        return x;
    }

    /** A game in a room whose exit has no next step: its only clue lies in it. */
    static ResetRooms circle(int players) {
        ResetRooms x = of("0 code 1234");
        x.addProp(1);
        x.addClue(0, 1, 0);
        Due.play(x, players);
        return x;
    }
}
