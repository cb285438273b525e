/** All promises: long runs of calls by a fixed rule, each answer compared with that of the model. */
final class RandomTest {
    private static final int RUNS = 3000;
    private static final int CALLS = 512;
    private static final Due due = new Due("RandomTest");

    private long seed;
    private ResetRooms x;
    private Model m;
    private int left;

    public static void main(String[] args) {
        for (int run = 0; run < RUNS; run++) {
            new RandomTest(run).go(run);
        }
        due.end();
    }

    private RandomTest(int run) {
        seed = run * 7919L + 17;
        x = new ResetRooms();
        m = new Model();
        left = CALLS;
    }

    private int below(int bound) {
        seed = seed * 6364136223846793005L + 1442695040888963407L;
        return (int) ((seed >>> 33) % bound);
    }

    /** Mostly a number from 0 to the bound, sometimes one around it or far away. */
    private int near(int bound) {
        int kind = below(40);
        if (kind == 0) {
            return -1 - below(3);
        }
        if (kind == 1) {
            return bound + below(3);
        }
        if (kind == 2) {
            return below(2) == 0 ? Integer.MAX_VALUE : Integer.MIN_VALUE;
        }
        return below(Math.max(1, bound));
    }

    private void same(int run, String call, int got, int want) {
        left--;
        due.is("run " + run + ", " + (CALLS - left) + ": " + call, got, want);
    }

    private void go(int run) {
        int size = 3 + below(9);
        build(run, size);
        while (left > 40) {
            int turn = below(100);
            boolean playing = m.count(14) == 1;
            if (turn < 8 && m.count(0) < size || turn < 2) {
                addBox(run);
            } else if (turn < 16 && !playing && m.count(1) < 2 * size || turn < 4) {
                int home = near(m.count(0));
                same(run, "addProp(" + home + ")", x.addProp(home), m.addProp(home));
            } else if (turn < 22 && !playing) {
                addClue(run);
            } else if (turn < 50 && playing) {
                follow(run);
            } else if (turn < 70 && playing) {
                act(run);
            } else if (turn < 76 && !playing) {
                if (m.count(9) != Due.NONE && m.box(m.count(9), 2) == 1 && below(4) > 0) {
                    same(run, "reset()", x.reset(), m.reset());
                }
                startGame(run);
            } else if (turn < 82) {
                master(run);
            } else if (turn < 88) {
                setUp(run);
            } else {
                ask(run);
            }
        }
        while (left > 0) {
            ask(run);
        }
    }

    /** Builds a room that can mostly be played: the last box is the exit. */
    private void build(int run, int size) {
        for (int i = 0; i < size; i++) {
            same(run, "addProp", x.addProp(i), m.addProp(i));
            if (below(2) == 0) {
                int home = below(m.count(0));
                same(run, "addProp", x.addProp(home), m.addProp(home));
            }
            addBox(run);
        }
        for (int i = 0; i < size; i++) {
            addClue(run);
        }
        int exit = m.count(0) - 1;
        int nudges = 3 + below(7);
        int minutes = 40 + below(81);
        same(run, "setExit(" + exit + ")", x.setExit(exit), m.setExit(exit));
        same(run, "setLimits", x.setLimits(minutes, nudges), m.setLimits(minutes, nudges));
    }

    private void addBox(int run) {
        String[] locks = {"latch", "key ", "code ", "plate "};
        int kind = below(4);
        StringBuilder text = new StringBuilder();
        text.append(below(10) == 0 ? "0" : "").append(below(3) == 0 ? 0 : below(m.count(0) + (below(9) == 0 ? 1 : 0)));
        text.append(' ').append(locks[kind]);
        if (kind == 2) {
            text.append((char) ('0' + below(10))).append(below(10)).append(below(10)).append(below(10));
        } else if (kind != 0) {
            text.append(below(m.count(1) + (below(9) == 0 || m.count(1) == 0 ? 1 : 0)));
        }
        if (below(6) == 0) {
            text.setCharAt(below(text.length()), "0123 lkcpx/:".charAt(below(12)));
        }
        if (below(12) == 0) {
            text.append("0 x".charAt(below(3)));
        }
        if (below(12) == 0) {
            text.setLength(below(text.length()));
        }
        same(run, "clearText()", x.clearText(), m.clearText());
        for (int i = 0; i < text.length() && left > 1; i++) {
            same(run, "type", x.type(text.charAt(i)), m.type(text.charAt(i)));
        }
        same(run, "addBox() of \"" + m.text + "\"", x.addBox(), m.addBox());
    }

    private void addClue(int run) {
        int prop = near(m.count(1));
        int box = near(m.count(0));
        for (int i = 0; i < 4 && m.box(box, 1) != 2; i++) {
            box = near(m.count(0));
        }
        int place = near(4);
        same(run, "addClue", x.addClue(prop, box, place), m.addClue(prop, box, place));
    }

    private void startGame(int run) {
        if (m.count(9) == Due.NONE || below(8) == 0) {
            int box = near(m.count(0));
            same(run, "setExit(" + box + ")", x.setExit(box), m.setExit(box));
        }
        book(run);
        same(run, "startGame()", x.startGame(), m.startGame());
    }

    private void book(int run) {
        int players = below(12) == 0 ? near(7) : 1 + below(6);
        int last = m.group(m.count(3) - 1, 1);
        int start = below(60) == 0 ? near(100001) : Math.max(m.count(5) - 30, below(8) == 0 ? 0 : last) + below(40);
        same(run, "book(" + players + ", " + start + ")", x.book(players, start), m.book(players, start));
    }

    /** Does the next step of the game, or what would be it with another number. */
    private void follow(int run) {
        int step = m.nextStep();
        int number = below(15) == 0 ? near(13) : Math.abs(step % 100);
        switch (step < 0 ? 0 : step % 1000 / 100) {
            case 1:
                same(run, "take(" + number + ")", x.take(number), m.take(number));
                break;
            case 2:
                int box = below(15) == 0 ? near(m.count(0)) : step / 1000;
                same(run, "lay(" + number + ", " + box + ")", x.lay(number, box), m.lay(number, box));
                break;
            case 3:
                int code = below(4) == 0 ? below(10000) : m.box(number, 6);
                same(run, "open(" + number + ", " + code + ")", x.open(number, code), m.open(number, code));
                break;
            case 4:
                same(run, "read(" + number + ")", x.read(number), m.read(number));
                break;
            case 5:
                int told = m.nudge();
                same(run, "nudge()", x.nudge(), told);
                if (told == Due.FULL && below(3) == 0) {
                    same(run, "giveUp()", x.giveUp(), m.giveUp());
                }
                break;
            default:
                same(run, "nextStep()", x.nextStep(), m.nextStep());
                act(run);
        }
    }

    private void act(int run) {
        int prop = near(m.count(1));
        int box = near(m.count(0));
        int clue = near(m.count(2));
        int minutes = below(6) == 0 ? near(61) : 1 + below(5);
        switch (below(9)) {
            case 0: same(run, "take(" + prop + ")", x.take(prop), m.take(prop)); break;
            case 1:
            case 2: same(run, "lay(" + prop + ", " + box + ")", x.lay(prop, box), m.lay(prop, box)); break;
            case 3:
                int code = m.box(box, 6);
                same(run, "open(" + box + ", " + code + ")", x.open(box, code), m.open(box, code));
                break;
            case 4:
            case 5: same(run, "read(" + clue + ")", x.read(clue), m.read(clue)); break;
            case 6: same(run, "rest(" + minutes + ")", x.rest(minutes), m.rest(minutes)); break;
            case 7: same(run, "nudge()", x.nudge(), m.nudge()); break;
            default:
                if (below(3) == 0) {
                    same(run, "giveUp()", x.giveUp(), m.giveUp());
                }
        }
    }

    private void master(int run) {
        int prop = near(m.count(1));
        int box = near(m.count(0));
        int clue = near(m.count(2));
        int minutes = below(6) == 0 ? near(1001) : 1 + below(90);
        switch (below(6)) {
            case 0: same(run, "idle(" + minutes + ")", x.idle(minutes), m.idle(minutes)); break;
            case 1: same(run, "putHome(" + prop + ")", x.putHome(prop), m.putHome(prop)); break;
            case 2: same(run, "writeOver(" + clue + ")", x.writeOver(clue), m.writeOver(clue)); break;
            case 3: same(run, "reset()", x.reset(), m.reset()); break;
            default: same(run, "close(" + box + ")", x.close(box), m.close(box));
        }
    }

    private void setUp(int run) {
        int box = near(m.count(0));
        int slot = near(2);
        int minutes = below(3) == 0 ? near(121) : 10 + below(111);
        int nudges = near(10);
        int units = below(6) == 0 ? near(1001) : 1 + below(12);
        int group = near(m.count(3));
        switch (below(8)) {
            case 0: same(run, "setExit(" + box + ")", x.setExit(box), m.setExit(box)); break;
            case 1:
                same(run, "setLimits(" + minutes + ", " + nudges + ")", x.setLimits(minutes, nudges),
                        m.setLimits(minutes, nudges));
                break;
            case 2: same(run, "addPaint(" + units + ")", x.addPaint(units), m.addPaint(units)); break;
            case 3: same(run, "keep(" + slot + ")", x.keep(slot), m.keep(slot)); break;
            case 4:
                if (below(3) == 0) {
                    same(run, "restore(" + slot + ")", x.restore(slot), m.restore(slot));
                }
                break;
            case 5: same(run, "cancel(" + group + ")", x.cancel(group), m.cancel(group)); break;
            case 6: book(run); break;
            default:
                if (m.count(14) == 0 || below(5) == 0) {
                    same(run, "startGame()", x.startGame(), m.startGame());
                }
        }
    }

    private void ask(int run) {
        int what = near(8);
        int i = near(m.count(below(3)));
        String args = "(" + i + ", " + what + ")";
        switch (below(11)) {
            case 0: same(run, "box" + args, x.box(i, what), m.box(i, what)); break;
            case 1: same(run, "prop" + args, x.prop(i, what), m.prop(i, what)); break;
            case 2: same(run, "clue" + args, x.clue(i, what), m.clue(i, what)); break;
            case 3: same(run, "game" + args, x.game(what), m.game(what)); break;
            case 4: same(run, "group" + args, x.group(i, what), m.group(i, what)); break;
            case 5: same(run, "result" + args, x.result(i, what), m.result(i, what)); break;
            case 6: same(run, "nextStep()", x.nextStep(), m.nextStep()); break;
            case 7: same(run, "plan(" + what + ")", x.plan(what), m.plan(what)); break;
            case 8: same(run, "differences(" + what + ")", x.differences(what), m.differences(what)); break;
            case 9:
                int index = near(m.count(10));
                same(run, "logAt(" + index + ")", x.logAt(index), m.logAt(index));
                break;
            default:
                int number = near(15);
                same(run, "count(" + number + ")", x.count(number), m.count(number));
        }
    }
}
