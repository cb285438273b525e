import java.util.ArrayList;
import java.util.List;
import java.util.TreeSet;
import java.util.regex.Matcher;
import java.util.regex.Pattern;

/**
 * The document once more, told in another way, to be compared with the program: things are objects, the
 * clock goes minute by minute, the rules of the next step are functions that ask one another.
 */
final class Model {
    private static final int UNKNOWN = -1;
    private static final int BAD_VALUE = -2;
    private static final int FULL = -3;
    private static final int NOT_POSSIBLE = -4;
    private static final int NONE = -5;
    private static final int TIME_OVER = -6;
    private static final Pattern TEXT =
            Pattern.compile("([0-9]{1,2}) (latch|key ([0-9]{1,2})|code ([0-9]{4})|plate ([0-9]{1,2}))");

    static final class Box {
        Box outer;
        int number;
        char lock;
        int item = NONE;
        boolean open;
        TreeSet<Integer> known = new TreeSet<>();
    }

    static final class Prop {
        int number;
        Box home;
        Box place; // null: held
    }

    static final class Clue {
        int number;
        Prop prop;
        Box box;
        int place;
        int ink = 9;
    }

    static final class World {
        List<Box> boxes = new ArrayList<>();
        List<Prop> props = new ArrayList<>();
        List<Clue> clues = new ArrayList<>();
        List<int[]> groups = new ArrayList<>();
        List<int[]> results = new ArrayList<>();
        String log = "";
        int exit;
        int clock;
        int paint;
        int limit = 60;
        int nudges = 3;
        int hands;
        int[] game; // players, wanted, start, nudges, wrong codes, differences; null: no game

        World copy() {
            World w = new World();
            for (Box b : boxes) {
                Box n = new Box();
                n.number = b.number;
                n.outer = b.outer == null ? null : w.boxes.get(b.outer.number);
                n.lock = b.lock;
                n.item = b.item;
                n.open = b.open;
                n.known = new TreeSet<>(b.known);
                w.boxes.add(n);
            }
            for (Prop p : props) {
                Prop n = new Prop();
                n.number = p.number;
                n.home = w.boxes.get(p.home.number);
                n.place = p.place == null ? null : w.boxes.get(p.place.number);
                w.props.add(n);
            }
            for (Clue c : clues) {
                Clue n = new Clue();
                n.number = c.number;
                n.prop = w.props.get(c.prop.number);
                n.box = w.boxes.get(c.box.number);
                n.place = c.place;
                n.ink = c.ink;
                w.clues.add(n);
            }
            groups.forEach(g -> w.groups.add(g.clone()));
            results.forEach(r -> w.results.add(r.clone()));
            w.log = log;
            w.exit = exit;
            w.clock = clock;
            w.paint = paint;
            w.limit = limit;
            w.nudges = nudges;
            w.hands = hands;
            w.game = game == null ? null : game.clone();
            return w;
        }
    }

    /** A step: its number, and the box whose digit it tells. */
    record Step(int number, Box box) {
    }

    String text = "";
    World w = new World();
    final World[] slots = new World[2];

    Model() {
        Box room = new Box();
        room.open = true;
        w.boxes.add(room);
    }

    private static boolean in(int i, List<?> list) {
        return i >= 0 && i < list.size();
    }

    private static boolean between(int i, int low, int high) {
        return i >= low && i <= high;
    }

    private boolean playing() {
        return w.game != null;
    }

    private List<Box> around(Box b) {
        List<Box> list = new ArrayList<>();
        for (Box o = b.outer; o != null; o = o.outer) {
            list.add(o);
        }
        return list;
    }

    private boolean atHand(Box b) {
        return around(b).stream().allMatch(o -> o.open);
    }

    private boolean atHand(Prop p) {
        return p.place == null || p.place.open && atHand(p.place);
    }

    private Box outermostClosed(Box b, boolean withItself) {
        List<Box> list = around(b);
        if (withItself) {
            list.add(0, b);
        }
        Box closed = null;
        for (Box o : list) {
            if (!o.open) {
                closed = o;
            }
        }
        return closed;
    }

    private int held() {
        return (int) w.props.stream().filter(p -> p.place == null).count();
    }

    private static int digit(Clue c) {
        return String.format("%04d", c.box.item).charAt(c.place) - '0';
    }

    private void pass(int minutes) {
        for (int i = 0; i < minutes; i++) {
            w.clock++;
            if (w.clock % 60 == 0) {
                for (Clue c : w.clues) {
                    if (atHand(c.prop) && c.ink > 0) {
                        c.ink--;
                    }
                }
            }
        }
    }

    private int less(int minutes, int players) {
        int m = minutes - players / 2;
        return m < 1 ? 1 : m;
    }

    private void end(boolean won) {
        int[] g = w.game;
        w.results.add(new int[] {g[0], g[1], g[2], w.clock - g[2], won ? 1 : 0, g[3], g[5]});
        w.game = null;
        for (Prop p : w.props) {
            if (p.place == null) {
                p.place = w.boxes.get(0);
            }
        }
        for (Box b : w.boxes) {
            b.known.clear();
        }
    }

    /** Whether the act is over by time; otherwise its entry is written. */
    private boolean over(int minutes, String entry) {
        int minute = w.clock - w.game[2];
        if (minute + minutes > w.limit) {
            w.log += minute + ":over/";
            pass(w.limit - minute);
            end(false);
            return true;
        }
        w.log += minute + ":" + entry + "/";
        return false;
    }

    // ---- the next step

    private Step stepFor(World v, Box b, List<Box> asked) {
        if (asked.contains(b)) {
            return null;
        }
        asked.add(b);
        Box closed = outermostClosed(b, false);
        if (closed != null) {
            return stepFor(v, closed, asked);
        }
        switch (b.lock) {
            case 'l':
                return new Step(300 + b.number, null);
            case 'k':
                return v.props.get(b.item).place == null ? new Step(300 + b.number, null)
                        : hold(v, v.props.get(b.item), asked);
            case 'p':
                Prop p = v.props.get(b.item);
                if (p.place == b.outer) {
                    return new Step(300 + b.number, null);
                }
                return p.place == null ? new Step(200 + p.number + 1000 * b.outer.number, null) : hold(v, p, asked);
            default:
                for (int place = 0; place < 4; place++) {
                    if (!b.known.contains(place)) {
                        return learn(v, b, place, asked);
                    }
                }
                return new Step(300 + b.number, null);
        }
    }

    private Step learn(World v, Box b, int place, List<Box> asked) {
        List<Clue> inked = new ArrayList<>();
        for (Clue c : v.clues) {
            if (c.box == b && c.place == place && c.ink > 0) {
                inked.add(c);
            }
        }
        for (int ink = 9; ink > 0; ink--) {
            for (Clue c : inked) {
                if (atHand(c.prop) && c.ink == ink) {
                    return new Step(400 + c.number, null);
                }
            }
        }
        if (!inked.isEmpty()) {
            return stepFor(v, outermostClosed(inked.get(0).prop.place, true), asked);
        }
        return new Step(500 + place, b);
    }

    private Step hold(World v, Prop p, List<Box> asked) {
        if (!atHand(p)) {
            return stepFor(v, outermostClosed(p.place, true), asked);
        }
        List<Prop> held = new ArrayList<>();
        for (Prop q : v.props) {
            if (q.place == null) {
                held.add(q);
            }
        }
        return held.size() < v.hands ? new Step(100 + p.number, null) : new Step(200 + held.get(0).number, null);
    }

    private Step exitStep(World v) {
        return stepFor(v, v.boxes.get(v.exit), new ArrayList<>());
    }

    private int planned(int players) {
        World v = w.copy();
        v.hands = players;
        int minutes = 0;
        Box exit = v.boxes.get(v.exit);
        while (!exit.open) {
            Step s = exitStep(v);
            if (s == null) {
                return NONE;
            }
            int n = s.number % 100;
            switch (s.number % 1000 / 100) {
                case 1:
                    v.props.get(n).place = null;
                    minutes += less(3, players);
                    break;
                case 2:
                    v.props.get(n).place = v.boxes.get(s.number / 1000);
                    minutes += less(2, players);
                    break;
                case 3:
                    v.boxes.get(n).open = true;
                    minutes += less(4, players);
                    break;
                case 4:
                    Clue c = v.clues.get(n);
                    minutes += less(3, players) * (c.ink <= 3 ? 2 : 1);
                    c.box.known.add(c.place);
                    c.ink--;
                    break;
                default:
                    s.box.known.add(n);
                    minutes += 2;
                    break;
            }
        }
        return minutes;
    }

    // ---- the calls

    int type(int c) {
        if (text.length() == 20) {
            return FULL;
        }
        text += (char) c;
        return text.length();
    }

    int clearText() {
        int n = text.length();
        text = "";
        return n;
    }

    static boolean goesOn(String prefix) {
        Matcher m = TEXT.matcher(prefix);
        return m.matches() || m.hitEnd();
    }

    int addBox() {
        Matcher m = TEXT.matcher(text);
        if (!m.matches()) {
            for (int i = 0; i < text.length(); i++) {
                if (!goesOn(text.substring(0, i + 1))) {
                    return -100 - i;
                }
            }
            return -100 - text.length();
        }
        Box b = new Box();
        int outer = Integer.parseInt(m.group(1));
        b.lock = m.group(2).charAt(0);
        for (int g = 3; g <= 5; g++) {
            if (m.group(g) != null) {
                b.item = Integer.parseInt(m.group(g));
            }
        }
        if (!in(outer, w.boxes) || (b.lock == 'k' || b.lock == 'p') && !in(b.item, w.props)) {
            return UNKNOWN;
        }
        if (playing()) {
            return NOT_POSSIBLE;
        }
        if (w.boxes.size() == 12) {
            return FULL;
        }
        b.outer = w.boxes.get(outer);
        b.number = w.boxes.size();
        w.boxes.add(b);
        return b.number;
    }

    int addProp(int home) {
        if (!in(home, w.boxes)) {
            return UNKNOWN;
        }
        if (playing()) {
            return NOT_POSSIBLE;
        }
        if (w.props.size() == 24) {
            return FULL;
        }
        Prop p = new Prop();
        p.number = w.props.size();
        p.home = w.boxes.get(home);
        p.place = p.home;
        w.props.add(p);
        return p.number;
    }

    int addClue(int prop, int box, int place) {
        if (!in(prop, w.props) || !in(box, w.boxes)) {
            return UNKNOWN;
        }
        if (!between(place, 0, 3)) {
            return BAD_VALUE;
        }
        if (w.boxes.get(box).lock != 'c' || playing()) {
            return NOT_POSSIBLE;
        }
        if (w.clues.size() == 12) {
            return FULL;
        }
        Clue c = new Clue();
        c.number = w.clues.size();
        c.prop = w.props.get(prop);
        c.box = w.boxes.get(box);
        c.place = place;
        w.clues.add(c);
        return c.number;
    }

    int setExit(int box) {
        if (!in(box, w.boxes)) {
            return UNKNOWN;
        }
        if (box == 0) {
            return BAD_VALUE;
        }
        if (playing()) {
            return NOT_POSSIBLE;
        }
        int old = w.exit;
        w.exit = box;
        return old == box ? NONE : old;
    }

    int setLimits(int minutes, int nudges) {
        if (!between(minutes, 10, 120) || !between(nudges, 0, 9)) {
            return BAD_VALUE;
        }
        if (playing()) {
            return NOT_POSSIBLE;
        }
        int old = w.limit;
        boolean same = old == minutes && w.nudges == nudges;
        w.limit = minutes;
        w.nudges = nudges;
        return same ? NONE : old;
    }

    int addPaint(int units) {
        if (!between(units, 1, 1000)) {
            return BAD_VALUE;
        }
        return w.paint += units;
    }

    int book(int players, int start) {
        if (!between(players, 1, 6) || !between(start, 0, 100000)) {
            return BAD_VALUE;
        }
        int n = w.groups.size();
        if (n > 0 && w.groups.get(n - 1)[1] > start) {
            return NOT_POSSIBLE;
        }
        if (n == 8) {
            return FULL;
        }
        w.groups.add(new int[] {players, start});
        return n + 1;
    }

    int cancel(int group) {
        if (!in(group, w.groups)) {
            return UNKNOWN;
        }
        w.groups.remove(group);
        return w.groups.size();
    }

    int startGame() {
        if (playing() || w.groups.isEmpty() || w.exit == 0 || w.boxes.get(w.exit).open) {
            return NOT_POSSIBLE;
        }
        if (w.results.size() == 30) {
            return FULL;
        }
        int[] g = w.groups.remove(0);
        if (w.clock < g[1]) {
            pass(g[1] - w.clock);
        }
        w.log = "";
        w.hands = g[0];
        w.game = new int[] {g[0], g[1], w.clock, 0, 0, differences(0) + differences(1)};
        return w.clock - g[1];
    }

    int take(int prop) {
        if (!in(prop, w.props)) {
            return UNKNOWN;
        }
        Prop p = w.props.get(prop);
        if (!playing() || p.place == null || !atHand(p)) {
            return NOT_POSSIBLE;
        }
        if (held() == w.game[0]) {
            return FULL;
        }
        int m = less(3, w.game[0]);
        if (over(m, "take " + prop)) {
            return TIME_OVER;
        }
        p.place = null;
        pass(m);
        return held();
    }

    int lay(int prop, int box) {
        if (!in(prop, w.props) || !in(box, w.boxes)) {
            return UNKNOWN;
        }
        Prop p = w.props.get(prop);
        Box b = w.boxes.get(box);
        if (!playing() || p.place != null || !b.open || !atHand(b)) {
            return NOT_POSSIBLE;
        }
        int m = less(2, w.game[0]);
        if (over(m, "lay " + prop + " " + box)) {
            return TIME_OVER;
        }
        p.place = b;
        pass(m);
        return held();
    }

    int open(int box, int code) {
        if (!in(box, w.boxes)) {
            return UNKNOWN;
        }
        Box b = w.boxes.get(box);
        if (!playing() || b.open || !atHand(b)
                || b.lock == 'k' && w.props.get(b.item).place != null
                || b.lock == 'p' && w.props.get(b.item).place != b.outer) {
            return NOT_POSSIBLE;
        }
        boolean right = b.lock != 'c' || code == b.item;
        int m = less(4, w.game[0]) * (right ? 1 : 2);
        if (over(m, "open " + box)) {
            return TIME_OVER;
        }
        b.open = right;
        w.game[4] += right ? 0 : 1;
        pass(m);
        if (right && box == w.exit) {
            end(true);
            return 2;
        }
        return right ? 1 : 0;
    }

    int read(int clue) {
        if (!in(clue, w.clues)) {
            return UNKNOWN;
        }
        Clue c = w.clues.get(clue);
        if (!playing() || !atHand(c.prop)) {
            return NOT_POSSIBLE;
        }
        if (c.ink == 0) {
            return NONE;
        }
        int m = less(3, w.game[0]);
        if (c.ink < 4) {
            m += m;
        }
        if (over(m, "read " + clue)) {
            return TIME_OVER;
        }
        c.box.known.add(c.place);
        c.ink--;
        pass(m);
        return digit(c);
    }

    int rest(int minutes) {
        if (!between(minutes, 1, 60)) {
            return BAD_VALUE;
        }
        if (!playing()) {
            return NOT_POSSIBLE;
        }
        if (over(minutes, "rest " + minutes)) {
            return TIME_OVER;
        }
        pass(minutes);
        return game(2);
    }

    int nudge() {
        if (!playing()) {
            return NOT_POSSIBLE;
        }
        if (w.game[3] >= w.nudges) {
            return FULL;
        }
        Step s = exitStep(w);
        if (s == null) {
            return NONE;
        }
        if (over(2, "nudge " + s.number)) {
            return TIME_OVER;
        }
        w.game[3]++;
        if (s.box != null) {
            s.box.known.add(s.number - 500);
        }
        pass(2);
        return s.number;
    }

    int giveUp() {
        if (!playing()) {
            return NOT_POSSIBLE;
        }
        int lasted = w.clock - w.game[2];
        w.log += lasted + ":up/";
        end(false);
        return lasted;
    }

    int idle(int minutes) {
        if (!between(minutes, 1, 1000)) {
            return BAD_VALUE;
        }
        if (playing()) {
            return NOT_POSSIBLE;
        }
        pass(minutes);
        return w.clock;
    }

    int putHome(int prop) {
        if (!in(prop, w.props)) {
            return UNKNOWN;
        }
        if (playing()) {
            return NOT_POSSIBLE;
        }
        Prop p = w.props.get(prop);
        Box old = p.place;
        if (old == p.home) {
            return NONE;
        }
        p.place = p.home;
        pass(1);
        return old.number;
    }

    int close(int box) {
        if (!in(box, w.boxes)) {
            return UNKNOWN;
        }
        if (box == 0) {
            return BAD_VALUE;
        }
        if (playing()) {
            return NOT_POSSIBLE;
        }
        if (!w.boxes.get(box).open) {
            return NONE;
        }
        w.boxes.get(box).open = false;
        pass(1);
        return differences(1);
    }

    int writeOver(int clue) {
        if (!in(clue, w.clues)) {
            return UNKNOWN;
        }
        Clue c = w.clues.get(clue);
        int lack = 9 - c.ink;
        if (playing() || w.paint < lack) {
            return NOT_POSSIBLE;
        }
        if (lack == 0) {
            return NONE;
        }
        c.ink = 9;
        w.paint -= lack;
        pass(1);
        return lack;
    }

    /** The minutes of a reset of this world, which is done without them. */
    private static int resetOf(World v) {
        int minutes = 0;
        for (Prop p : v.props) {
            if (p.place != p.home) {
                p.place = p.home;
                minutes++;
            }
        }
        for (Box b : v.boxes) {
            if (b.number > 0 && b.open) {
                b.open = false;
                minutes++;
            }
        }
        for (Clue c : v.clues) {
            if (c.ink < 4 && 9 - c.ink <= v.paint) {
                v.paint -= 9 - c.ink;
                c.ink = 9;
                minutes++;
            }
        }
        return minutes;
    }

    int reset() {
        if (playing()) {
            return NOT_POSSIBLE;
        }
        int minutes = resetOf(w);
        if (minutes == 0) {
            return NONE;
        }
        pass(minutes);
        return minutes;
    }

    int keep(int slot) {
        if (!between(slot, 0, 1)) {
            return UNKNOWN;
        }
        slots[slot] = w.copy();
        return w.clock;
    }

    int restore(int slot) {
        if (!between(slot, 0, 1)) {
            return UNKNOWN;
        }
        if (slots[slot] == null) {
            return NONE;
        }
        w = slots[slot].copy();
        return w.clock;
    }

    int box(int box, int what) {
        if (!in(box, w.boxes)) {
            return UNKNOWN;
        }
        if (!between(what, 0, 7)) {
            return BAD_VALUE;
        }
        Box b = w.boxes.get(box);
        switch (what) {
            case 0: return box == 0 ? NONE : b.outer.number;
            case 1: return box == 0 ? NONE : "lkcp".indexOf(b.lock);
            case 2: return b.open ? 1 : 0;
            case 3: return atHand(b) ? 1 : 0;
            case 4: return (int) w.props.stream().filter(p -> p.place == b).count();
            case 5: return (int) w.boxes.stream().filter(o -> o.outer == b).count();
            case 6: return b.item;
            default: return b.known.stream().mapToInt(k -> 1 << k).sum();
        }
    }

    int prop(int prop, int what) {
        if (!in(prop, w.props)) {
            return UNKNOWN;
        }
        Prop p = w.props.get(prop);
        switch (what) {
            case 0: return p.home.number;
            case 1: return p.place == null ? NONE : p.place.number;
            case 2: return atHand(p) ? 1 : 0;
            case 3: return (int) w.clues.stream().filter(c -> c.prop == p).count();
            case 4: return (int) w.boxes.stream()
                    .filter(b -> (b.lock == 'k' || b.lock == 'p') && b.item == prop).count();
            default: return BAD_VALUE;
        }
    }

    int clue(int clue, int what) {
        if (!in(clue, w.clues)) {
            return UNKNOWN;
        }
        Clue c = w.clues.get(clue);
        switch (what) {
            case 0: return c.prop.number;
            case 1: return c.box.number;
            case 2: return c.place;
            case 3: return c.ink;
            case 4: return digit(c);
            case 5: return atHand(c.prop) ? 1 : 0;
            default: return BAD_VALUE;
        }
    }

    int game(int what) {
        if (!between(what, 0, 5)) {
            return BAD_VALUE;
        }
        if (!playing()) {
            return NOT_POSSIBLE;
        }
        switch (what) {
            case 0: return w.game[0];
            case 1: return w.game[2];
            case 2: return w.limit - (w.clock - w.game[2]);
            case 3: return w.game[3];
            case 4: return w.props.stream().filter(p -> p.place == null).mapToInt(p -> 1 << p.number).sum();
            default: return w.game[4];
        }
    }

    int group(int group, int what) {
        if (!in(group, w.groups)) {
            return UNKNOWN;
        }
        if (!between(what, 0, 2)) {
            return BAD_VALUE;
        }
        if (what < 2) {
            return w.groups.get(group)[what];
        }
        int earliest;
        if (group > 0) {
            earliest = group(group - 1, 2) + w.limit + 10;
        } else if (playing()) {
            earliest = w.game[2] + w.limit + 10;
        } else {
            earliest = w.clock;
        }
        return Math.max(earliest, w.groups.get(group)[1]);
    }

    int result(int result, int what) {
        if (!in(result, w.results)) {
            return UNKNOWN;
        }
        return between(what, 0, 6) ? w.results.get(result)[what] : BAD_VALUE;
    }

    int nextStep() {
        if (!playing()) {
            return NOT_POSSIBLE;
        }
        Step s = exitStep(w);
        return s == null ? NONE : s.number;
    }

    int plan(int players) {
        if (!between(players, 1, 6)) {
            return BAD_VALUE;
        }
        return playing() || w.exit == 0 ? NOT_POSSIBLE : planned(players);
    }

    int differences(int what) {
        switch (what) {
            case 0: return (int) w.props.stream().filter(p -> p.place != p.home).count();
            case 1: return (int) w.boxes.stream().filter(b -> b.open).count() - 1;
            case 2: return (int) w.clues.stream().filter(c -> c.ink < 4).count();
            case 3: return resetOf(w.copy());
            case 4:
                World v = w.copy();
                resetOf(v);
                return w.paint - v.paint;
            default: return BAD_VALUE;
        }
    }

    int logAt(int index) {
        if (index < 0) {
            return BAD_VALUE;
        }
        return index < w.log.length() ? w.log.charAt(index) : NONE;
    }

    int count(int what) {
        switch (what) {
            case 0: return w.boxes.size();
            case 1: return w.props.size();
            case 2: return w.clues.size();
            case 3: return w.groups.size();
            case 4: return (int) w.groups.stream().filter(g -> g[1] < w.clock).count();
            case 5: return w.clock;
            case 6: return w.paint;
            case 7: return w.results.size();
            case 8: return (int) w.results.stream().filter(r -> r[4] == 1).count();
            case 9: return w.exit == 0 ? NONE : w.exit;
            case 10: return w.log.length();
            case 11: return text.length();
            case 12: return w.limit;
            case 13: return w.nudges;
            case 14: return playing() ? 1 : 0;
            default: return BAD_VALUE;
        }
    }
}
