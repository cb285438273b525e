/**
 * A room to escape from, and to be reset: boxes in boxes with four kinds of locks, props that have a
 * home, clues whose ink fades, groups that play one after the other, a master who tells the next step,
 * and resets after which a room is as at first.
 */
public final class ResetRooms {
    /** There is no such box, prop, clue, group, result or slot. */
    public static final int UNKNOWN = -1;
    /** Another argument is out of range. */
    public static final int BAD_VALUE = -2;
    /** There is no more room. */
    public static final int FULL = -3;
    /** This is not possible. */
    public static final int NOT_POSSIBLE = -4;
    /** There is no such thing; not an error. */
    public static final int NONE = -5;
    /** The game is over by time; not an error. */
    public static final int TIME_OVER = -6;

    private static final int TEXT_LENGTH = 20;
    private static final int MAX_BOXES = 12;
    private static final int MAX_PROPS = 24;
    private static final int MAX_CLUES = 12;
    private static final int MAX_GROUPS = 8;
    private static final int MAX_RESULTS = 30;
    private static final int RESULT_PARTS = 7;
    // A game has at most 120 acts of a minute each and one entry that ends it, of 16 signs at most.
    private static final int LOG_LENGTH = 2048;
    // Far above the steps of any plan: 11 boxes with four digits and four moves each.
    private static final int MAX_PLAN_STEPS = 1000;

    private static final int LATCH = 0;
    private static final int KEY = 1;
    private static final int CODE = 2;
    private static final int PLATE = 3;

    private static final int HELD = -1;
    private static final int NO_NUMBER = -1;
    private static final int NO_FAULT = -1;
    private static final int CODE_PLACES = 4;
    private static final int FULL_INK = 9;
    private static final int PALE_INK = 3;
    private static final int HOUR = 60;
    private static final int BREAK_MINUTES = 10;

    private static final int TAKE_MINUTES = 3;
    private static final int LAY_MINUTES = 2;
    private static final int OPEN_MINUTES = 4;
    private static final int READ_MINUTES = 3;
    private static final int NUDGE_MINUTES = 2;

    private static final int TAKE_STEP = 100;
    private static final int LAY_STEP = 200;
    private static final int OPEN_STEP = 300;
    private static final int READ_STEP = 400;
    private static final int TELL_STEP = 500;
    private static final int STEP_KIND = 100;
    private static final int STEP_BOX = 1000;

    private final BoxText text = new BoxText();
    private final State now = new State();
    private final State firstSlot = new State();
    private final State secondSlot = new State();
    private final Room planned = new Room();
    private int keptSlots;

    public ResetRooms() {
        keptSlots = 0;
    }

    // ---- what there is

    public int type(char character) {
        if (text.length >= TEXT_LENGTH) {
            return FULL;
        }
        put(text.signs, text.length, character);
        text.length++;
        return text.length;
    }

    public int clearText() {
        int length = text.length;
        text.length = 0;
        return length;
    }

    public int addBox() {
        Room room = now.room;
        int fault = text.findFault();
        if (fault != NO_FAULT) {
            return -100 - fault;
        }
        boolean hasProp = text.lock == KEY || text.lock == PLATE;
        if (!room.hasBox(text.outer) || hasProp && !room.hasProp(text.item)) {
            return UNKNOWN;
        }
        if (now.game.running) {
            return NOT_POSSIBLE;
        }
        if (room.boxCount >= MAX_BOXES) {
            return FULL;
        }
        return room.appendBox(text.outer, text.lock, text.item);
    }

    public int addProp(int home) {
        if (!now.room.hasBox(home)) {
            return UNKNOWN;
        }
        if (now.game.running) {
            return NOT_POSSIBLE;
        }
        if (now.room.propCount >= MAX_PROPS) {
            return FULL;
        }
        return now.room.appendProp(home);
    }

    public int addClue(int prop, int box, int place) {
        Room room = now.room;
        if (!room.hasProp(prop) || !room.hasBox(box)) {
            return UNKNOWN;
        }
        if (place < 0 || place >= CODE_PLACES) {
            return BAD_VALUE;
        }
        if (!room.hasLock(box, CODE) || now.game.running) {
            return NOT_POSSIBLE;
        }
        if (room.clueCount >= MAX_CLUES) {
            return FULL;
        }
        return room.appendClue(prop, box, place);
    }

    public int setExit(int box) {
        if (!now.room.hasBox(box)) {
            return UNKNOWN;
        }
        if (box == 0) {
            return BAD_VALUE;
        }
        if (now.game.running) {
            return NOT_POSSIBLE;
        }
        int previous = now.room.exit;
        if (previous == box) {
            return NONE;
        }
        now.room.exit = box;
        return previous;
    }

    public int setLimits(int minutes, int nudges) {
        if (minutes < 10 || minutes > 120 || nudges < 0 || nudges > 9) {
            return BAD_VALUE;
        }
        if (now.game.running) {
            return NOT_POSSIBLE;
        }
        int previous = now.limit;
        if (previous == minutes && now.nudges == nudges) {
            return NONE;
        }
        now.limit = minutes;
        now.nudges = nudges;
        return previous;
    }

    public int addPaint(int units) {
        if (units < 1 || units > 1000) {
            return BAD_VALUE;
        }
        now.paint += units;
        return now.paint;
    }

    // ---- groups and games

    public int book(int players, int start) {
        Queue queue = now.queue;
        if (!isGroupSize(players) || start < 0 || start > 100000) {
            return BAD_VALUE;
        }
        if (queue.waiting > 0 && at(queue.starts, queue.waiting - 1) > start) {
            return NOT_POSSIBLE;
        }
        if (queue.waiting >= MAX_GROUPS) {
            return FULL;
        }
        queue.append(players, start);
        return queue.waiting;
    }

    public int cancel(int group) {
        if (!now.queue.hasGroup(group)) {
            return UNKNOWN;
        }
        now.queue.remove(group);
        return now.queue.waiting;
    }

    public int startGame() {
        Room room = now.room;
        if (now.game.running || now.queue.waiting == 0 || room.exit == 0 || room.isOpen(room.exit)) {
            return NOT_POSSIBLE;
        }
        if (now.results.count >= MAX_RESULTS) {
            return FULL;
        }
        return now.beginGame();
    }

    public int take(int prop) {
        Room room = now.room;
        if (!room.hasProp(prop)) {
            return UNKNOWN;
        }
        if (!now.game.running || room.isHeld(prop) || !room.propAtHand(prop)) {
            return NOT_POSSIBLE;
        }
        if (room.heldProps() >= room.hands) {
            return FULL;
        }
        int minutes = actMinutes(TAKE_MINUTES, room.hands);
        if (!now.hasTimeFor(minutes)) {
            return now.runOutOfTime();
        }
        now.note("take", prop, NO_NUMBER);
        put(room.lies, prop, HELD);
        now.pass(minutes);
        return room.heldProps();
    }

    public int lay(int prop, int box) {
        Room room = now.room;
        if (!room.hasProp(prop) || !room.hasBox(box)) {
            return UNKNOWN;
        }
        if (!now.game.running || !room.isHeld(prop) || room.outermostClosed(box) != 0) {
            return NOT_POSSIBLE;
        }
        int minutes = actMinutes(LAY_MINUTES, room.hands);
        if (!now.hasTimeFor(minutes)) {
            return now.runOutOfTime();
        }
        now.note("lay", prop, box);
        put(room.lies, prop, box);
        now.pass(minutes);
        return room.heldProps();
    }

    public int open(int box, int code) {
        Room room = now.room;
        if (!room.hasBox(box)) {
            return UNKNOWN;
        }
        if (!now.game.running || !room.canBeOpened(box)) {
            return NOT_POSSIBLE;
        }
        boolean wrongCode = room.hasLock(box, CODE) && at(room.item, box) != code;
        int minutes = actMinutes(OPEN_MINUTES, room.hands) * (wrongCode ? 2 : 1);
        if (!now.hasTimeFor(minutes)) {
            return now.runOutOfTime();
        }
        now.note("open", box, NO_NUMBER);
        if (wrongCode) {
            now.game.wrongCodes++;
            now.pass(minutes);
            return 0;
        }
        put(room.opened, box, 1);
        now.pass(minutes);
        if (box != room.exit) {
            return 1;
        }
        now.endGame(true);
        return 2;
    }

    public int read(int clue) {
        Room room = now.room;
        if (!room.hasClue(clue)) {
            return UNKNOWN;
        }
        if (!now.game.running || !room.clueAtHand(clue)) {
            return NOT_POSSIBLE;
        }
        if (at(room.ink, clue) == 0) {
            return NONE;
        }
        int minutes = room.readingMinutes(clue);
        if (!now.hasTimeFor(minutes)) {
            return now.runOutOfTime();
        }
        now.note("read", clue, NO_NUMBER);
        room.learnFromClue(clue);
        now.pass(minutes);
        return room.clueDigit(clue);
    }

    public int rest(int minutes) {
        if (minutes < 1 || minutes > 60) {
            return BAD_VALUE;
        }
        if (!now.game.running) {
            return NOT_POSSIBLE;
        }
        if (!now.hasTimeFor(minutes)) {
            return now.runOutOfTime();
        }
        now.note("rest", minutes, NO_NUMBER);
        now.pass(minutes);
        return now.minutesLeft();
    }

    public int nudge() {
        if (!now.game.running) {
            return NOT_POSSIBLE;
        }
        if (now.game.nudgesTold >= now.nudges) {
            return FULL;
        }
        int step = now.room.stepFor(now.room.exit);
        if (step == NONE) {
            return NONE;
        }
        if (!now.hasTimeFor(NUDGE_MINUTES)) {
            return now.runOutOfTime();
        }
        now.note("nudge", toldStep(step), NO_NUMBER);
        now.game.nudgesTold++;
        if (stepKind(step) == TELL_STEP) {
            now.room.learnDigit(step / STEP_BOX, step % STEP_KIND);
        }
        now.pass(NUDGE_MINUTES);
        return toldStep(step);
    }

    public int giveUp() {
        if (!now.game.running) {
            return NOT_POSSIBLE;
        }
        int lasted = now.gameMinute();
        now.note("up", NO_NUMBER, NO_NUMBER);
        now.endGame(false);
        return lasted;
    }

    // ---- between games

    public int idle(int minutes) {
        if (minutes < 1 || minutes > 1000) {
            return BAD_VALUE;
        }
        if (now.game.running) {
            return NOT_POSSIBLE;
        }
        now.pass(minutes);
        return now.clock;
    }

    public int putHome(int prop) {
        Room room = now.room;
        if (!room.hasProp(prop)) {
            return UNKNOWN;
        }
        if (now.game.running) {
            return NOT_POSSIBLE;
        }
        int place = at(room.lies, prop);
        if (place == at(room.home, prop)) {
            return NONE;
        }
        put(room.lies, prop, at(room.home, prop));
        now.pass(1);
        return place;
    }

    public int close(int box) {
        Room room = now.room;
        if (!room.hasBox(box)) {
            return UNKNOWN;
        }
        if (box == 0) {
            return BAD_VALUE;
        }
        if (now.game.running) {
            return NOT_POSSIBLE;
        }
        if (!room.isOpen(box)) {
            return NONE;
        }
        put(room.opened, box, 0);
        now.pass(1);
        return room.openBoxes();
    }

    public int writeOver(int clue) {
        Room room = now.room;
        if (!room.hasClue(clue)) {
            return UNKNOWN;
        }
        int lack = room.inkLack(clue);
        if (now.game.running || lack > now.paint) {
            return NOT_POSSIBLE;
        }
        if (lack == 0) {
            return NONE;
        }
        now.refill(clue);
        now.pass(1);
        return lack;
    }

    public int reset() {
        if (now.game.running) {
            return NOT_POSSIBLE;
        }
        int minutes = now.resetMinutes();
        if (minutes == 0) {
            return NONE;
        }
        now.bringToOrder();
        now.pass(minutes);
        return minutes;
    }

    // ---- snapshots

    public int keep(int slot) {
        if (!isSlot(slot)) {
            return UNKNOWN;
        }
        slotState(slot).copyFrom(now);
        keptSlots |= 1 << slot;
        return now.clock;
    }

    public int restore(int slot) {
        if (!isSlot(slot)) {
            return UNKNOWN;
        }
        if ((keptSlots >> slot & 1) == 0) {
            return NONE;
        }
        now.copyFrom(slotState(slot));
        return now.clock;
    }

    // ---- what is told

    public int box(int box, int what) {
        Room room = now.room;
        if (!room.hasBox(box)) {
            return UNKNOWN;
        }
        switch (what) {
            case 0: return box == 0 ? NONE : at(room.outer, box);
            case 1: return box == 0 ? NONE : at(room.lock, box);
            case 2: return at(room.opened, box);
            case 3: return asNumber(room.boxAtHand(box));
            case 4: return room.propsIn(box);
            case 5: return room.boxesIn(box);
            case 6: return box == 0 || room.hasLock(box, LATCH) ? NONE : at(room.item, box);
            case 7: return at(room.known, box);
            default: return BAD_VALUE;
        }
    }

    public int prop(int prop, int what) {
        Room room = now.room;
        if (!room.hasProp(prop)) {
            return UNKNOWN;
        }
        switch (what) {
            case 0: return at(room.home, prop);
            case 1: return room.isHeld(prop) ? NONE : at(room.lies, prop);
            case 2: return asNumber(room.propAtHand(prop));
            case 3: return room.cluesOn(prop);
            case 4: return room.locksWith(prop);
            default: return BAD_VALUE;
        }
    }

    public int clue(int clue, int what) {
        Room room = now.room;
        if (!room.hasClue(clue)) {
            return UNKNOWN;
        }
        switch (what) {
            case 0: return at(room.clueProp, clue);
            case 1: return at(room.clueBox, clue);
            case 2: return at(room.cluePlace, clue);
            case 3: return at(room.ink, clue);
            case 4: return room.clueDigit(clue);
            case 5: return asNumber(room.clueAtHand(clue));
            default: return BAD_VALUE;
        }
    }

    public int game(int what) {
        if (what < 0 || what > 5) {
            return BAD_VALUE;
        }
        if (!now.game.running) {
            return NOT_POSSIBLE;
        }
        switch (what) {
            case 0: return now.game.players;
            case 1: return now.game.start;
            case 2: return now.minutesLeft();
            case 3: return now.game.nudgesTold;
            case 4: return now.room.heldBits();
            default: return now.game.wrongCodes;
        }
    }

    public int group(int group, int what) {
        if (!now.queue.hasGroup(group)) {
            return UNKNOWN;
        }
        switch (what) {
            case 0: return at(now.queue.players, group);
            case 1: return at(now.queue.starts, group);
            case 2: return now.latestStart(group);
            default: return BAD_VALUE;
        }
    }

    public int result(int result, int what) {
        if (result < 0 || result >= now.results.count) {
            return UNKNOWN;
        }
        if (what < 0 || what >= RESULT_PARTS) {
            return BAD_VALUE;
        }
        return at(now.results.parts, result * RESULT_PARTS + what);
    }

    public int nextStep() {
        if (!now.game.running) {
            return NOT_POSSIBLE;
        }
        return toldStep(now.room.stepFor(now.room.exit));
    }

    public int plan(int players) {
        if (!isGroupSize(players)) {
            return BAD_VALUE;
        }
        if (now.game.running || now.room.exit == 0) {
            return NOT_POSSIBLE;
        }
        planned.copyFrom(now.room);
        planned.hands = players;
        return planned.minutesToExit();
    }

    public int differences(int what) {
        switch (what) {
            case 0: return now.room.propsAway();
            case 1: return now.room.openBoxes();
            case 2: return now.room.paleClues();
            case 3: return now.resetMinutes();
            case 4: return now.resetPaint();
            default: return BAD_VALUE;
        }
    }

    public int logAt(int index) {
        if (index < 0) {
            return BAD_VALUE;
        }
        if (index >= now.log.length) {
            return NONE;
        }
        return at(now.log.signs, index);
    }

    public int count(int what) {
        switch (what) {
            case 0: return now.room.boxCount;
            case 1: return now.room.propCount;
            case 2: return now.room.clueCount;
            case 3: return now.queue.waiting;
            case 4: return now.queue.waitingBefore(now.clock);
            case 5: return now.clock;
            case 6: return now.paint;
            case 7: return now.results.count;
            case 8: return now.results.wins();
            case 9: return now.room.exit == 0 ? NONE : now.room.exit;
            case 10: return now.log.length;
            case 11: return text.length;
            case 12: return now.limit;
            case 13: return now.nudges;
            case 14: return asNumber(now.game.running);
            default: return BAD_VALUE;
        }
    }

    private State slotState(int slot) {
        return slot == 0 ? firstSlot : secondSlot;
    }

    private static boolean isSlot(int slot) {
        return slot == 0 || slot == 1;
    }

    private static boolean isGroupSize(int players) {
        return players >= 1 && players <= 6;
    }

    private static int asNumber(boolean yes) {
        return yes ? 1 : 0;
    }

    private static int actMinutes(int minutes, int players) {
        return Math.max(1, minutes - players / 2);
    }

    /** The step as it is told: for a digit only its place, though inside the step its box is with it. */
    private static int toldStep(int step) {
        return stepKind(step) == TELL_STEP ? step % STEP_BOX : step;
    }

    private static int stepKind(int step) {
        return step % STEP_BOX / STEP_KIND * STEP_KIND;
    }

    /** What stands in the row at the index, 0 outside of the row: all rows are read here, so none is overrun. */
    private static int at(int[] row, int index) {
        return row != null && index >= 0 && index < row.length ? row[index] : 0;
    }

    private static void put(int[] row, int index, int value) {
        if (row != null && index >= 0 && index < row.length) {
            row[index] = value;
        }
    }

    private static void copyRow(int[] from, int[] to) {
        if (from == null || to == null) {
            return;
        }
        for (int i = 0; i < from.length && i < to.length; i++) {
            to[i] = from[i];
        }
    }

    /** The text of a box, and what it tells when it has no fault. */
    private static final class BoxText {
        final int[] signs = new int[TEXT_LENGTH];
        int length;
        int outer;
        int lock;
        int item;
        private int position;
        private int number;

        /**
         * The fault of the text; if it is NO_FAULT then outer, lock and item are those of the text. Each
         * function that matches a part stops with the position at the sign that does not fit.
         */
        int findFault() {
            position = 0;
            if (!matchesDigits(1, 2)) {
                return position;
            }
            outer = number;
            number = 0;
            if (!matchesWord(" ") || !matchesLock() || position != length) {
                return position;
            }
            item = number;
            return NO_FAULT;
        }

        private boolean matchesLock() {
            switch (signHere()) {
                case 'l':
                    lock = LATCH;
                    return matchesWord("latch");
                case 'k':
                    lock = KEY;
                    return matchesWord("key ") && matchesDigits(1, 2);
                case 'c':
                    lock = CODE;
                    return matchesWord("code ") && matchesDigits(CODE_PLACES, CODE_PLACES);
                case 'p':
                    lock = PLATE;
                    return matchesWord("plate ") && matchesDigits(1, 2);
                default:
                    return false;
            }
        }

        private boolean matchesDigits(int least, int most) {
            number = 0;
            int digits = 0;
            while (digits < most && digitHere()) {
                number = number * 10 + signHere() - '0';
                position++;
                digits++;
            }
            return digits >= least;
        }

        private boolean matchesWord(String word) {
            for (int i = 0; i < word.length(); i++) {
                if (signHere() != word.charAt(i)) {
                    return false;
                }
                position++;
            }
            return true;
        }

        private boolean digitHere() {
            return signHere() >= '0' && signHere() <= '9';
        }

        private int signHere() {
            return position < length ? at(signs, position) : -1;
        }
    }

    /** The boxes, props and clues, what the group holds and knows, and the rules of the next step. */
    private static final class Room {
        int boxCount;
        final int[] outer = new int[MAX_BOXES];
        final int[] lock = new int[MAX_BOXES];
        final int[] item = new int[MAX_BOXES];
        final int[] opened = new int[MAX_BOXES];
        final int[] known = new int[MAX_BOXES];
        int propCount;
        final int[] home = new int[MAX_PROPS];
        final int[] lies = new int[MAX_PROPS];
        int clueCount;
        final int[] clueProp = new int[MAX_CLUES];
        final int[] clueBox = new int[MAX_CLUES];
        final int[] cluePlace = new int[MAX_CLUES];
        final int[] ink = new int[MAX_CLUES];
        int exit;
        // How many players the group has, and so how many props it can hold.
        int hands;

        Room() {
            boxCount = 1;
            put(opened, 0, 1);
        }

        void copyFrom(Room other) {
            boxCount = other.boxCount;
            copyRow(other.outer, outer);
            copyRow(other.lock, lock);
            copyRow(other.item, item);
            copyRow(other.opened, opened);
            copyRow(other.known, known);
            propCount = other.propCount;
            copyRow(other.home, home);
            copyRow(other.lies, lies);
            clueCount = other.clueCount;
            copyRow(other.clueProp, clueProp);
            copyRow(other.clueBox, clueBox);
            copyRow(other.cluePlace, cluePlace);
            copyRow(other.ink, ink);
            exit = other.exit;
            hands = other.hands;
        }

        int appendBox(int outerBox, int lockKind, int lockItem) {
            int box = boxCount;
            put(outer, box, outerBox);
            put(lock, box, lockKind);
            put(item, box, lockItem);
            put(opened, box, 0);
            put(known, box, 0);
            boxCount++;
            return box;
        }

        int appendProp(int homeBox) {
            int prop = propCount;
            put(home, prop, homeBox);
            put(lies, prop, homeBox);
            propCount++;
            return prop;
        }

        int appendClue(int prop, int box, int place) {
            int clue = clueCount;
            put(clueProp, clue, prop);
            put(clueBox, clue, box);
            put(cluePlace, clue, place);
            put(ink, clue, FULL_INK);
            clueCount++;
            return clue;
        }

        boolean hasBox(int box) {
            return box >= 0 && box < boxCount;
        }

        boolean hasProp(int prop) {
            return prop >= 0 && prop < propCount;
        }

        boolean hasClue(int clue) {
            return clue >= 0 && clue < clueCount;
        }

        /** Whether the box has a lock of this kind; the room has no lock. */
        boolean hasLock(int box, int kind) {
            return box > 0 && at(lock, box) == kind;
        }

        boolean isOpen(int box) {
            return at(opened, box) == 1;
        }

        boolean isHeld(int prop) {
            return at(lies, prop) == HELD;
        }

        /**
         * The outermost closed box among the box and the boxes around it; 0 if all of them are open, and for
         * HELD, so that what is held is at hand.
         */
        int outermostClosed(int box) {
            int closed = 0;
            int around = box;
            for (int level = 0; level < MAX_BOXES && around > 0; level++) {
                if (at(opened, around) == 0) {
                    closed = around;
                }
                around = at(outer, around);
            }
            return closed;
        }

        boolean boxAtHand(int box) {
            return box == 0 || outermostClosed(at(outer, box)) == 0;
        }

        boolean propAtHand(int prop) {
            return outermostClosed(at(lies, prop)) == 0;
        }

        boolean clueAtHand(int clue) {
            return outermostClosed(at(lies, at(clueProp, clue))) == 0;
        }

        boolean canBeOpened(int box) {
            if (isOpen(box) || !boxAtHand(box)) {
                return false;
            }
            if (hasLock(box, KEY)) {
                return isHeld(at(item, box));
            }
            return !hasLock(box, PLATE) || at(lies, at(item, box)) == at(outer, box);
        }

        int propsIn(int box) {
            int props = 0;
            for (int prop = 0; prop < propCount; prop++) {
                if (at(lies, prop) == box) {
                    props++;
                }
            }
            return props;
        }

        int heldProps() {
            return propsIn(HELD);
        }

        int heldBits() {
            int bits = 0;
            for (int prop = 0; prop < propCount; prop++) {
                if (isHeld(prop)) {
                    bits |= 1 << prop;
                }
            }
            return bits;
        }

        int boxesIn(int box) {
            int boxes = 0;
            for (int inner = 1; inner < boxCount; inner++) {
                if (at(outer, inner) == box) {
                    boxes++;
                }
            }
            return boxes;
        }

        int cluesOn(int prop) {
            int clues = 0;
            for (int clue = 0; clue < clueCount; clue++) {
                if (at(clueProp, clue) == prop) {
                    clues++;
                }
            }
            return clues;
        }

        int locksWith(int prop) {
            int locks = 0;
            for (int box = 1; box < boxCount; box++) {
                if ((hasLock(box, KEY) || hasLock(box, PLATE)) && at(item, box) == prop) {
                    locks++;
                }
            }
            return locks;
        }

        int propsAway() {
            int props = 0;
            for (int prop = 0; prop < propCount; prop++) {
                if (at(lies, prop) != at(home, prop)) {
                    props++;
                }
            }
            return props;
        }

        int openBoxes() {
            int boxes = 0;
            for (int box = 1; box < boxCount; box++) {
                if (isOpen(box)) {
                    boxes++;
                }
            }
            return boxes;
        }

        int paleClues() {
            int clues = 0;
            for (int clue = 0; clue < clueCount; clue++) {
                if (isPale(clue)) {
                    clues++;
                }
            }
            return clues;
        }

        boolean isPale(int clue) {
            return at(ink, clue) <= PALE_INK;
        }

        int inkLack(int clue) {
            return FULL_INK - at(ink, clue);
        }

        void fade(int units) {
            for (int clue = 0; clue < clueCount; clue++) {
                if (clueAtHand(clue)) {
                    put(ink, clue, Math.max(0, at(ink, clue) - units));
                }
            }
        }

        int clueDigit(int clue) {
            int code = at(item, at(clueBox, clue));
            switch (at(cluePlace, clue)) {
                case 0: return code / 1000 % 10;
                case 1: return code / 100 % 10;
                case 2: return code / 10 % 10;
                default: return code % 10;
            }
        }

        int readingMinutes(int clue) {
            return actMinutes(READ_MINUTES, hands) * (isPale(clue) ? 2 : 1);
        }

        void learnFromClue(int clue) {
            learnDigit(at(clueBox, clue), at(cluePlace, clue));
            put(ink, clue, Math.max(0, at(ink, clue) - 1));
        }

        void learnDigit(int box, int place) {
            put(known, box, at(known, box) | 1 << place);
        }

        void forgetDigits() {
            for (int box = 0; box < boxCount; box++) {
                put(known, box, 0);
            }
        }

        void dropHeldProps() {
            for (int prop = 0; prop < propCount; prop++) {
                if (isHeld(prop)) {
                    put(lies, prop, 0);
                }
            }
        }

        void bringPropsHome() {
            for (int prop = 0; prop < propCount; prop++) {
                put(lies, prop, at(home, prop));
            }
        }

        void closeBoxes() {
            for (int box = 1; box < boxCount; box++) {
                put(opened, box, 0);
            }
        }

        /**
         * The next step for a box, or NONE. A step that tells a digit has also 1000 * the box of the code
         * in it. The rules lead from box to box, so they are followed in a loop.
         */
        int stepFor(int target) {
            int asked = 0;
            int box = target;
            for (int turn = 0; turn < MAX_BOXES; turn++) {
                if (box <= 0 || (asked >> box & 1) == 1) {
                    return NONE;
                }
                asked |= 1 << box;
                int answer = outermostClosed(at(outer, box));
                if (answer == 0) {
                    answer = hasLock(box, CODE) ? stepForCode(box) : stepForThing(box);
                }
                if (answer >= TAKE_STEP) {
                    return answer;
                }
                box = answer;
            }
            return NONE;
        }

        // The functions below answer with a step, or with the box (a number below all steps) whose next
        // step it is.

        private int stepForThing(int box) {
            int thing = at(item, box);
            int place = at(lies, thing);
            if (hasLock(box, LATCH)
                    || hasLock(box, KEY) && place == HELD
                    || hasLock(box, PLATE) && place == at(outer, box)) {
                return OPEN_STEP + box;
            }
            if (place == HELD) {
                return LAY_STEP + thing + STEP_BOX * at(outer, box);
            }
            return stepToHold(thing);
        }

        private int stepToHold(int prop) {
            int closed = outermostClosed(at(lies, prop));
            if (closed > 0) {
                return closed;
            }
            return heldProps() < hands ? TAKE_STEP + prop : LAY_STEP + lowestHeld();
        }

        private int lowestHeld() {
            int lowest = 0;
            while (lowest < propCount && !isHeld(lowest)) {
                lowest++;
            }
            return lowest;
        }

        private int stepForCode(int box) {
            int place = lowestUnknownPlace(box);
            if (place == CODE_PLACES) {
                return OPEN_STEP + box;
            }
            int best = -1;
            int lowest = -1;
            for (int clue = clueCount - 1; clue >= 0; clue--) {
                if (at(clueBox, clue) == box && at(cluePlace, clue) == place && at(ink, clue) > 0) {
                    lowest = clue;
                    if (clueAtHand(clue) && (best < 0 || at(ink, clue) >= at(ink, best))) {
                        best = clue;
                    }
                }
            }
            if (best >= 0) {
                return READ_STEP + best;
            }
            return lowest >= 0
                    ? outermostClosed(at(lies, at(clueProp, lowest)))
                    : TELL_STEP + place + STEP_BOX * box;
        }

        private int lowestUnknownPlace(int box) {
            int place = 0;
            while (place < CODE_PLACES && (at(known, box) >> place & 1) == 1) {
                place++;
            }
            return place;
        }

        /** Does the next step for the exit until it is open; the minutes that this takes, or NONE. */
        int minutesToExit() {
            int minutes = 0;
            for (int turn = 0; turn < MAX_PLAN_STEPS && !isOpen(exit); turn++) {
                int step = stepFor(exit);
                if (step == NONE) {
                    return NONE;
                }
                minutes += follow(stepKind(step), step % STEP_KIND, step / STEP_BOX);
            }
            return isOpen(exit) ? minutes : NONE;
        }

        /** Does a step without a clock; the minutes that it takes. */
        private int follow(int kind, int number, int box) {
            switch (kind) {
                case TAKE_STEP:
                    put(lies, number, HELD);
                    return actMinutes(TAKE_MINUTES, hands);
                case LAY_STEP:
                    put(lies, number, box);
                    return actMinutes(LAY_MINUTES, hands);
                case OPEN_STEP:
                    put(opened, number, 1);
                    return actMinutes(OPEN_MINUTES, hands);
                case READ_STEP:
                    int minutes = readingMinutes(number);
                    learnFromClue(number);
                    return minutes;
                default:
                    learnDigit(box, number);
                    return NUDGE_MINUTES;
            }
        }
    }

    /** The groups that wait. */
    private static final class Queue {
        int waiting;
        final int[] players = new int[MAX_GROUPS];
        final int[] starts = new int[MAX_GROUPS];

        void copyFrom(Queue other) {
            waiting = other.waiting;
            copyRow(other.players, players);
            copyRow(other.starts, starts);
        }

        boolean hasGroup(int group) {
            return group >= 0 && group < waiting;
        }

        void append(int groupPlayers, int groupStart) {
            put(players, waiting, groupPlayers);
            put(starts, waiting, groupStart);
            waiting++;
        }

        void remove(int group) {
            for (int next = group + 1; next < waiting; next++) {
                put(players, next - 1, at(players, next));
                put(starts, next - 1, at(starts, next));
            }
            waiting--;
        }

        int waitingBefore(int minute) {
            int groups = 0;
            for (int group = 0; group < waiting; group++) {
                if (at(starts, group) < minute) {
                    groups++;
                }
            }
            return groups;
        }
    }

    /** The present game, or the latest one. */
    private static final class Game {
        boolean running;
        int players;
        int wanted;
        int start;
        int nudgesTold;
        int wrongCodes;
        int differences;

        void copyFrom(Game other) {
            running = other.running;
            players = other.players;
            wanted = other.wanted;
            start = other.start;
            nudgesTold = other.nudgesTold;
            wrongCodes = other.wrongCodes;
            differences = other.differences;
        }
    }

    /** The results of the games, each with its parts in the order in which they are asked for. */
    private static final class Results {
        int count;
        final int[] parts = new int[MAX_RESULTS * RESULT_PARTS];

        void copyFrom(Results other) {
            count = other.count;
            copyRow(other.parts, parts);
        }

        void append(Game game, int lasted, int won) {
            int first = count * RESULT_PARTS;
            put(parts, first, game.players);
            put(parts, first + 1, game.wanted);
            put(parts, first + 2, game.start);
            put(parts, first + 3, lasted);
            put(parts, first + 4, won);
            put(parts, first + 5, game.nudgesTold);
            put(parts, first + 6, game.differences);
            count++;
        }

        int wins() {
            int won = 0;
            for (int result = 0; result < count; result++) {
                won += at(parts, result * RESULT_PARTS + 4);
            }
            return won;
        }
    }

    /** The log of the present game, or of the latest one. */
    private static final class Log {
        int length;
        final int[] signs = new int[LOG_LENGTH];

        void copyFrom(Log other) {
            length = other.length;
            // Nobody reads what stands behind the end, so the long rest of the row is spared.
            for (int i = 0; i < length; i++) {
                put(signs, i, at(other.signs, i));
            }
        }

        void append(int minute, String word, int first, int second) {
            appendNumber(minute);
            appendSign(':');
            for (int i = 0; i < word.length(); i++) {
                appendSign(word.charAt(i));
            }
            appendArgument(first);
            appendArgument(second);
            appendSign('/');
        }

        private void appendArgument(int number) {
            if (number != NO_NUMBER) {
                appendSign(' ');
                appendNumber(number);
            }
        }

        private void appendNumber(int number) {
            for (int unit = 100000; unit > 0; unit /= 10) {
                if (number >= unit || unit == 1) {
                    appendSign('0' + number / unit % 10);
                }
            }
        }

        private void appendSign(int sign) {
            if (length < LOG_LENGTH) {
                put(signs, length, sign);
                length++;
            }
        }
    }

    /** All that a snapshot keeps. */
    private static final class State {
        final Room room = new Room();
        final Queue queue = new Queue();
        final Game game = new Game();
        final Results results = new Results();
        final Log log = new Log();
        int clock;
        int paint;
        int limit = 60;
        int nudges = 3;

        void copyFrom(State other) {
            room.copyFrom(other.room);
            queue.copyFrom(other.queue);
            game.copyFrom(other.game);
            results.copyFrom(other.results);
            log.copyFrom(other.log);
            clock = other.clock;
            paint = other.paint;
            limit = other.limit;
            nudges = other.nudges;
        }

        void pass(int minutes) {
            int hours = (clock + minutes) / HOUR - clock / HOUR;
            clock += minutes;
            if (hours > 0) {
                room.fade(hours);
            }
        }

        int gameMinute() {
            return clock - game.start;
        }

        int minutesLeft() {
            return game.start + limit - clock;
        }

        boolean hasTimeFor(int minutes) {
            return minutes <= minutesLeft();
        }

        void note(String word, int first, int second) {
            log.append(gameMinute(), word, first, second);
        }

        /** Starts the game of the first group; returns how late it starts. */
        int beginGame() {
            game.players = at(queue.players, 0);
            game.wanted = at(queue.starts, 0);
            queue.remove(0);
            game.start = Math.max(clock, game.wanted);
            pass(game.start - clock);
            game.nudgesTold = 0;
            game.wrongCodes = 0;
            game.differences = room.propsAway() + room.openBoxes();
            game.running = true;
            room.hands = game.players;
            log.length = 0;
            return game.start - game.wanted;
        }

        void endGame(boolean won) {
            results.append(game, gameMinute(), asNumber(won));
            game.running = false;
            room.dropHeldProps();
            room.forgetDigits();
        }

        int runOutOfTime() {
            log.append(gameMinute(), "over", NO_NUMBER, NO_NUMBER);
            pass(minutesLeft());
            endGame(false);
            return TIME_OVER;
        }

        /** The minute at which a group starts if all games ahead of it last as long as they can. */
        int latestStart(int group) {
            int free = game.running ? game.start + limit + BREAK_MINUTES : clock;
            for (int ahead = 0; ahead < group; ahead++) {
                free = Math.max(free, at(queue.starts, ahead)) + limit + BREAK_MINUTES;
            }
            return Math.max(free, at(queue.starts, group));
        }

        void refill(int clue) {
            paint -= room.inkLack(clue);
            put(room.ink, clue, FULL_INK);
        }

        /** The clues that a reset writes over now, as a bit set: those for which the paint lasts. */
        private int cluesOfReset() {
            int bits = 0;
            int left = paint;
            for (int clue = 0; clue < room.clueCount; clue++) {
                if (room.isPale(clue) && room.inkLack(clue) <= left) {
                    left -= room.inkLack(clue);
                    bits |= 1 << clue;
                }
            }
            return bits;
        }

        int resetMinutes() {
            return room.propsAway() + room.openBoxes() + Integer.bitCount(cluesOfReset());
        }

        int resetPaint() {
            int bits = cluesOfReset();
            int units = 0;
            for (int clue = 0; clue < room.clueCount; clue++) {
                units += (bits >> clue & 1) * room.inkLack(clue);
            }
            return units;
        }

        void bringToOrder() {
            int bits = cluesOfReset();
            room.bringPropsHome();
            room.closeBoxes();
            for (int clue = 0; clue < room.clueCount; clue++) {
                if ((bits >> clue & 1) == 1) {
                    refill(clue);
                }
            }
        }
    }
}
