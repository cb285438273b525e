/** All that a room tells, as one text; asking for the text of a box and the snapshots may change the room at last. */
final class Told {
    private Told() {
    }

    static String all(ResetRooms x) {
        return state(x) + behind(x);
    }

    /** All that is told but the text and the snapshots. */
    static String state(ResetRooms x) {
        StringBuilder told = new StringBuilder();
        for (int what = 0; what < 15; what++) {
            if (what != 11) {
                told.append(what == 0 ? "count " : " ").append(x.count(what));
            }
        }
        for (int i = 0; i < x.count(0); i++) {
            told.append("; box");
            for (int what = 0; what < 8; what++) {
                told.append(' ').append(x.box(i, what));
            }
        }
        for (int i = 0; i < x.count(1); i++) {
            told.append("; prop ").append(x.prop(i, 0)).append(' ').append(x.prop(i, 1)).append(' ')
                    .append(x.prop(i, 2)).append(' ').append(x.prop(i, 3)).append(' ').append(x.prop(i, 4));
        }
        for (int i = 0; i < x.count(2); i++) {
            told.append("; clue");
            for (int what = 0; what < 6; what++) {
                told.append(' ').append(x.clue(i, what));
            }
        }
        games(x, told);
        return told.toString();
    }

    private static void games(ResetRooms x, StringBuilder told) {
        for (int i = 0; i < x.count(3); i++) {
            told.append("; group ").append(x.group(i, 0)).append(' ').append(x.group(i, 1)).append(' ')
                    .append(x.group(i, 2));
        }
        for (int i = 0; i < x.count(7); i++) {
            told.append("; result");
            for (int what = 0; what < 7; what++) {
                told.append(' ').append(x.result(i, what));
            }
        }
        told.append("; game");
        for (int what = 0; what < 6; what++) {
            told.append(' ').append(x.game(what));
        }
        told.append("; differences");
        for (int what = 0; what < 5; what++) {
            told.append(' ').append(x.differences(what));
        }
        told.append("; step ").append(x.nextStep()).append("; plan ").append(x.plan(1)).append("; log ")
                .append(Due.log(x));
    }

    private static String behind(ResetRooms x) {
        return "; text " + x.count(11) + " " + x.addBox() + " " + x.count(0)
                + "; snapshots " + x.restore(0) + " " + x.restore(1);
    }
}
