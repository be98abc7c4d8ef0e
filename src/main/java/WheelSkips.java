/**
 * A wheel that skips: wheels of teeth that turn one another night by night, frost by a law,
 * nights in thought, records of nights, changes undone, bodies with acts, and shelves.
 * The promises behind every method stand in the project's document.
 */
public final class WheelSkips {
    public static final int BAD = -1, NOT = -2, FULL = -3, STATE = -5, VOID = -2000000000;

    private static final int EMPTY_SHELF = -11, OTHER_KIND = -12, NO_PLACE = -13, SIZE_BELOW_ZERO = -14;
    private static final int NONE = -1;
    private static final int FAULTY = -100;
    private static final int MOST_BYTES = 120;
    private static final int MOST_WHEELS = 4;
    private static final int MOST_TEETH = 40;
    private static final int MOST_WEEK = 9;
    private static final int LATEST_BREAK = 9999;
    private static final int LAST_NIGHT = 1000000;
    private static final int SHORT_THOUGHT = 2000;
    private static final int LONG_THOUGHT = 20000;
    private static final int NEAR_THOUGHT = 400;
    private static final int MOST_RECORDS = 40;
    private static final int LATEST_RECORD = 5000;
    private static final int MOST_TWOS = 30;
    private static final int MOST_CHANGES = 40;
    private static final int MOST_BODIES = 50;
    private static final int KINDS = 8;
    private static final int ACTS = 4;
    private static final int MOST_TRACE = 24;
    private static final int MOST_SHELVES = 6;
    private static final int MOST_ELEMENTS = 60;
    private static final int ROW_SORTS = 5;

    private final Tape tape;
    private final Wheels wheels;
    private final Law frost;
    private final Nights nights;
    private final Records recorded;
    private final Judging judging;
    private final Moment picture;
    private final Changes changes;
    private final Bodies bodies;
    private final Shelves shelves;
    private int picturedWheels;

    public WheelSkips() {
        tape = new Tape();
        wheels = new Wheels();
        frost = new Law(tape);
        nights = new Nights(wheels, frost);
        recorded = new Records();
        judging = new Judging(wheels, nights, recorded);
        picture = new Moment();
        changes = new Changes();
        bodies = new Bodies();
        shelves = new Shelves();
        picturedWheels = NONE;
    }

    // ---- wheels, frost

    public int feed(int letter) {
        if (letter < 0 || letter > 255) return BAD;
        if (tape.length >= MOST_BYTES) return FULL;
        tape.append(letter);
        return tape.length;
    }

    public int wheel() {
        if (wheels.number >= MOST_WHEELS) return FULL;
        int fault = wheels.faultOf(tape);
        int answer = fault == NONE ? wheels.cutFrom(tape) : FAULTY - fault;
        tape.length = 0;
        return answer;
    }

    public int law() {
        int fault = frost.takeFromTape();
        tape.length = 0;
        return fault == NONE ? 1 : FAULTY - fault;
    }

    public int set(int what, int v) {
        if (what == 0 && v >= 1 && v <= MOST_WEEK) {
            int week = nights.week;
            nights.week = v;
            return week;
        }
        if (what == 1) {
            int seed = frost.seed;
            frost.seed = v;
            return seed;
        }
        return VOID;
    }

    public int broke(int wheel, int v) {
        if (!wheels.has(wheel) || v < 0 || v > LATEST_BREAK) return BAD;
        int before = wheels.breakOf(wheel);
        wheels.setBreak(wheel, v);
        changes.add(wheel, NONE, before, v);
        return before;
    }

    public int tooth(int wheel, int place, int letter) {
        if (!wheels.hasPlace(wheel, place) || !isTooth(letter)) return BAD;
        int before = wheels.letterAt(wheel, place);
        wheels.setLetter(wheel, place, letter);
        changes.add(wheel, place, before, letter);
        return before;
    }

    public int of(int wheel, int what) {
        if (!wheels.has(wheel)) return BAD;
        switch (what) {
            case 0: return wheels.sizeOf(wheel);
            case 1: return nights.now.placeOf(wheel);
            case 2: return nights.now.waitsOf(wheel);
            case 3: return wheels.breakOf(wheel);
            default: break;
        }
        if (what < 100 || !wheels.hasPlace(wheel, what - 100)) return BAD;
        return wheels.letterAt(wheel, what - 100);
    }

    // ---- nights

    public int on(int n) {
        if (n < 1 || n > SHORT_THOUGHT) return BAD;
        if (nights.now.night > LAST_NIGHT - n) return FULL;
        nights.pass(nights.now, n, wheels.number);
        return nights.now.night;
    }

    public int lay(int wheel, int place) {
        if (!wheels.hasPlace(wheel, place)) return BAD;
        int before = nights.now.placeOf(wheel);
        nights.now.stand(wheel, place, 0);
        return before;
    }

    public int shows(int wheel, int n) {
        if (!wheels.has(wheel) || n < 0 || n > LONG_THOUGHT) return BAD;
        nights.think();
        nights.pass(nights.thought, n, wheel + 1);
        return nights.thought.placeOf(wheel);
    }

    public int day() {
        if (wheels.number == 0) return STATE;
        return nights.dayOf(nights.now.placeOf(0));
    }

    public int often(int day, int n) {
        if (n < 1 || n > SHORT_THOUGHT || day < 0 || day >= nights.week) return BAD;
        if (wheels.number == 0) return STATE;
        return nights.timesOfDay(day, n);
    }

    public int never(int n, int what) {
        if (n < 1 || n > SHORT_THOUGHT || what < 0 || what > 1) return BAD;
        if (wheels.number == 0) return STATE;
        return nights.unshown(n, what == 0);
    }

    public int meets(int wp, int n, int what) {
        if (!isSpot(wp) || n < 1 || n > SHORT_THOUGHT || what < 0 || what > 1) return BAD;
        return nights.timesAt(wp / 100, wp % 100, n, what == 1);
    }

    public int two(int wp, int vq, int n) {
        if (!isSpot(wp) || !isSpot(vq) || n < 1 || n > LONG_THOUGHT) return BAD;
        return nights.firstOfBoth(wp, vq, n);
    }

    public int round(int n) {
        if (n < 1 || n > LONG_THOUGHT) return BAD;
        return nights.firstAsNow(n);
    }

    public int truth(int ab) {
        if (ab < 0 || ab / 100 >= MOST_TEETH || ab % 100 >= MOST_TEETH) return BAD;
        if (wheels.number == 0) return STATE;
        nights.think();
        if (nights.nightsTo(ab / 100, 0, SHORT_THOUGHT) == NOT) return NOT;
        return nights.nightsTo(ab % 100, 1, SHORT_THOUGHT);
    }

    public int near(int n, int what) {
        if (n < 1 || n > NEAR_THOUGHT || what < 0 || what > 2) return BAD;
        if (wheels.number == 0) return STATE;
        return what == 2 ? nights.wrongDays(n) : nights.nearest(n, what == 0);
    }

    // ---- records

    public int record(int night, int place) {
        if (!isRecord(night, place)) return BAD;
        if (recorded.number >= MOST_RECORDS) return FULL;
        return recorded.add(night, place);
    }

    public int records(int shelf, int i, int n) {
        if (!shelves.has(shelf) || n < 1 || n > MOST_TWOS) return BAD;
        int held = shelves.heldBy(shelf);
        if (held != Shelves.NOTHING && held != Shelves.SHORTS) return OTHER_KIND;
        for (int came = 0; came < n; came++) {
            int at = i + 2 * came;
            if (!shelves.hasElement(shelf, at) || !shelves.hasElement(shelf, at + 1)) return came;
            int night = (int) shelves.valueAt(shelf, at);
            int place = (int) shelves.valueAt(shelf, at + 1);
            if (!isRecord(night, place) || recorded.number >= MOST_RECORDS) return came;
            recorded.add(night, place);
        }
        return n;
    }

    public int clear() {
        int before = recorded.number;
        recorded.number = 0;
        return before;
    }

    public int judge() {
        if (wheels.number == 0) return STATE;
        return judging.firstWrong(false);
    }

    public int fits(int place) {
        if (!wheels.hasPlace(0, place)) return BAD;
        return judging.fitting(place);
    }

    public int sure(int what) {
        if (what < 0 || what > 1) return BAD;
        if (wheels.number == 0) return STATE;
        int many = 0;
        for (int place = 0; place < wheels.sizeOf(0) && place < MOST_TEETH; place++) {
            if (Integer.bitCount(judging.fitting(place)) == 1) {
                if (what == 1) return place;
                many++;
            }
        }
        return what == 1 ? NOT : many;
    }

    public int when(int what) {
        if (what < 0 || what > 2) return BAD;
        if (wheels.number == 0) return STATE;
        judging.tryBreaks();
        if (what == 2) return judging.manyBreaks;
        return what == 0 ? judging.leastBreak : judging.greatestBreak;
    }

    public int watch(int place) {
        if (!wheels.hasPlace(0, place)) return BAD;
        return judging.fewestNights(place, judging.fitting(place));
    }

    public int image() {
        picture.become(nights.now, wheels.number);
        picturedWheels = wheels.number;
        return picture.night;
    }

    public int back() {
        if (picturedWheels == NONE) return STATE;
        nights.now.become(picture, picturedWheels);
        return nights.now.night;
    }

    public int undo() {
        if (changes.done == 0) return STATE;
        changes.done--;
        apply(changes.done, changes.beforeAt(changes.done));
        return changes.done;
    }

    public int redo() {
        if (changes.done >= changes.kept) return STATE;
        apply(changes.done, changes.afterAt(changes.done));
        changes.done++;
        return changes.kept - changes.done;
    }

    // ---- acts, shelves

    public int body(int kind) {
        if (kind < 0 || kind >= KINDS) return BAD;
        if (bodies.number >= MOST_BODIES) return FULL;
        return bodies.add(kind);
    }

    public int act(int body, int act, int x) {
        bodies.forgetTrace();
        if (!bodies.has(body) || act < 0 || act >= ACTS) return 0;
        return bodies.perform(body, act, x);
    }

    public int trace(int i) {
        if (i < 0 || i >= bodies.ran || i >= MOST_TRACE) return BAD;
        return bodies.tracedAt(i);
    }

    public int keep(int shelf, int body) {
        if (!shelves.has(shelf)) return BAD;
        if (body != NONE && !bodies.has(body)) return BAD;
        shelves.hold(shelf, body == NONE ? Shelves.NOTHING : Shelves.BODY, body);
        return 1;
    }

    public int row(int shelf, int sort, int n) {
        if (!shelves.has(shelf) || sort < 0 || sort >= ROW_SORTS || n > MOST_ELEMENTS) return BAD;
        if (n < 0) return SIZE_BELOW_ZERO;
        shelves.hold(shelf, sort, n);
        return 1;
    }

    public int put(int shelf, int i, long v) {
        if (!shelves.has(shelf)) return BAD;
        int refusal = shelves.refusalAt(shelf, i);
        if (refusal != 0) return refusal;
        shelves.write(shelf, i, v);
        return 1;
    }

    public long element(int shelf, int i) {
        if (!shelves.has(shelf) || shelves.refusalAt(shelf, i) != 0) return Long.MIN_VALUE;
        return shelves.valueAt(shelf, i);
    }

    public int shift(int shelf, int i, int other, int j, int n) {
        if (!shelves.has(shelf) || !shelves.has(other)) return BAD;
        int held = shelves.heldBy(shelf);
        int heldThere = shelves.heldBy(other);
        if (held == Shelves.NOTHING || heldThere == Shelves.NOTHING) return EMPTY_SHELF;
        if (held == Shelves.BODY || held != heldThere) return OTHER_KIND;
        if (!shelves.hasPart(shelf, i, n) || !shelves.hasPart(other, j, n)) return NO_PLACE;
        shelves.move(shelf, i, other, j, n);
        return n;
    }

    public int taken(int shelf, int k) {
        if (!shelves.has(shelf) || k < 0 || k >= KINDS) return BAD;
        int held = shelves.heldBy(shelf);
        if (held == Shelves.NOTHING) return EMPTY_SHELF;
        if (held != Shelves.BODY) return OTHER_KIND;
        int kind = bodies.kindOf(shelves.sizeOf(shelf));
        return bodies.isUnder(kind, k) ? kind : OTHER_KIND;
    }

    public int count(int what) {
        switch (what) {
            case 0: return wheels.number;
            case 1: return nights.now.night;
            case 2: return recorded.number;
            case 3: return tape.length;
            case 4: return changes.done;
            case 5: return bodies.number;
            case 6: return bodies.ran;
            default: return BAD;
        }
    }

    /** Whether wp, 100 times a wheel and a place, tells a tooth that there is. */
    private boolean isSpot(int wp) {
        return wp >= 0 && wheels.hasPlace(wp / 100, wp % 100);
    }

    private void apply(int change, int v) {
        int wheel = changes.wheelAt(change);
        int place = changes.placeAt(change);
        if (place == NONE) wheels.setBreak(wheel, v);
        else wheels.setLetter(wheel, place, v);
    }

    private static boolean isRecord(int night, int place) {
        return night >= 0 && night <= LATEST_RECORD && place >= 0 && place < MOST_TEETH;
    }

    private static boolean isTooth(int letter) {
        return letter == 'w' || letter == 's' || letter == 'f' || letter == 'b'
            || letter >= '1' && letter <= '9';
    }

    /** What is left of a by b; 0 where b is 0, as the law of frost wants it too. */
    private static int left(int a, int b) {
        return b == 0 ? 0 : a % b;
    }

    /** The bytes that wait to become a wheel or a law. */
    private static final class Tape {
        private final int[] bytes = new int[MOST_BYTES];
        private int length;

        void append(int letter) {
            if (length < 0 || length >= bytes.length) return;
            bytes[length] = letter;
            length++;
        }

        /** The byte at a place; NONE, which is no byte, behind the last one. */
        int at(int i) {
            return i >= 0 && i < length && i < bytes.length ? bytes[i] : NONE;
        }
    }

    /** What of the wheels the nights don't change: teeth and the night each broke in. */
    private static final class Wheels {
        private final int[] letters = new int[MOST_WHEELS * MOST_TEETH];
        private final int[] sizes = new int[MOST_WHEELS];
        private final int[] breaks = new int[MOST_WHEELS];
        private int number;

        boolean has(int wheel) {
            return wheel >= 0 && wheel < number && wheel < sizes.length;
        }

        boolean hasPlace(int wheel, int place) {
            return has(wheel) && place >= 0 && place < sizes[wheel];
        }

        int sizeOf(int wheel) {
            return wheel >= 0 && wheel < sizes.length ? sizes[wheel] : 0;
        }

        int breakOf(int wheel) {
            return wheel >= 0 && wheel < breaks.length ? breaks[wheel] : 0;
        }

        void setBreak(int wheel, int v) {
            if (wheel >= 0 && wheel < breaks.length) breaks[wheel] = v;
        }

        int letterAt(int wheel, int place) {
            int i = MOST_TEETH * wheel + place;
            return i >= 0 && i < letters.length ? letters[i] : 0;
        }

        void setLetter(int wheel, int place, int letter) {
            int i = MOST_TEETH * wheel + place;
            if (i >= 0 && i < letters.length) letters[i] = letter;
        }

        int faultOf(Tape tape) {
            for (int i = 0; i < tape.length; i++) {
                if (i >= MOST_TEETH || !isTooth(tape.at(i))) return i;
            }
            return tape.length < 2 ? tape.length : NONE;
        }

        /** Makes a wheel of a tape without a fault; its number. */
        int cutFrom(Tape tape) {
            int wheel = number;
            if (wheel < 0 || wheel >= sizes.length) return FULL;
            for (int i = 0; i < tape.length && i < MOST_TEETH; i++) setLetter(wheel, i, tape.at(i));
            sizes[wheel] = tape.length;
            number++;
            return wheel;
        }
    }

    /** What the nights change: how late it is, where each wheel stands and how long it has waited. */
    private static final class Moment {
        private final int[] places = new int[MOST_WHEELS];
        private final int[] waits = new int[MOST_WHEELS];
        private int night;

        int placeOf(int wheel) {
            return wheel >= 0 && wheel < places.length ? places[wheel] : 0;
        }

        int waitsOf(int wheel) {
            return wheel >= 0 && wheel < waits.length ? waits[wheel] : 0;
        }

        void stand(int wheel, int place, int wait) {
            if (wheel < 0 || wheel >= places.length || wheel >= waits.length) return;
            places[wheel] = place;
            waits[wheel] = wait;
        }

        /** Becomes as another one for its first wheels; the wheels behind these stay. */
        void become(Moment other, int wheels) {
            night = other.night;
            for (int w = 0; w < wheels && w < places.length; w++) {
                stand(w, other.placeOf(w), other.waitsOf(w));
            }
        }

        boolean standsAs(Moment other, int wheels) {
            for (int w = 0; w < wheels && w < places.length; w++) {
                if (placeOf(w) != other.placeOf(w) || waitsOf(w) != other.waitsOf(w)) return false;
            }
            return true;
        }
    }

    /**
     * The law of frost, as a code for a stack: 0 .. 9999 stand for themselves, a sign is its byte
     * below 0, and JUMP and a place of the code goes on there where the line's first E gave 0.
     */
    private static final class Law {
        private static final int END = -';', NEGATE = -1, JUMP = 10000;
        // A byte of the text makes one step at most, and the last line's end one more.
        private static final int MOST_STEPS = MOST_BYTES + 8;

        private final LawReader reader;
        private final int[] code = new int[MOST_STEPS];
        private final int[] stack = new int[MOST_STEPS];
        private int length;
        private int top;
        private int seed;

        Law(Tape tape) {
            reader = new LawReader(tape);
        }

        /** Takes the tape's text, if it has no fault; else all stays. The fault or NONE. */
        int takeFromTape() {
            int fault = reader.readTape();
            if (fault != NONE) return fault;
            length = reader.length;
            for (int i = 0; i < length && i < code.length; i++) code[i] = reader.stepAt(i);
            return NONE;
        }

        /** What the first line that counts gives; 0 if none does, or without a text. */
        int valueAt(int night, int place, int wheel) {
            top = 0;
            for (int i = 0; i < length && i < code.length; i++) {
                int step = code[i];
                if (step == END) return pop();
                if (step >= JUMP) {
                    if (pop() == 0) i = Math.max(i, step - JUMP - 1);
                } else if (step >= 0) {
                    push(step);
                } else {
                    push(resultOf(step, night, place, wheel));
                }
            }
            return 0;
        }

        private int resultOf(int step, int night, int place, int wheel) {
            switch (step) {
                case -'t': return night;
                case -'p': return place;
                case -'k': return wheel;
                case -'z': return ((night * 1103515245 + seed) >>> 8) % 10;
                case -'!': return pop() == 0 ? 1 : 0;
                case NEGATE: return -pop();
                default: break;
            }
            int b = pop();
            int a = pop();
            switch (step) {
                case -'|': return a != 0 || b != 0 ? 1 : 0;
                case -'&': return a != 0 && b != 0 ? 1 : 0;
                case -'<': return a < b ? 1 : 0;
                case -'=': return a == b ? 1 : 0;
                case -'>': return a > b ? 1 : 0;
                case -'+': return a + b;
                case -'-': return a - b;
                case -'*': return a * b;
                case -'/': return b == 0 ? 0 : a / b;
                case -'%': return left(a, b);
                default: return 0;
            }
        }

        private void push(int v) {
            if (top < 0 || top >= stack.length) return;
            stack[top] = v;
            top++;
        }

        private int pop() {
            if (top <= 0 || top > stack.length) return 0;
            top--;
            return stack[top];
        }
    }

    /**
     * Reads a text of the law from the tape into steps. Every reader stops at the first byte that
     * can't go on, or behind the last one, so where it stands when one fails is the fault.
     */
    private static final class LawReader {
        private static final int MOST_OPEN = 6;
        private static final int MOST_DIGITS = 4;

        private final Tape tape;
        private final int[] steps = new int[Law.MOST_STEPS];
        private int length;
        private int at;

        LawReader(Tape tape) {
            this.tape = tape;
        }

        int stepAt(int i) {
            return i >= 0 && i < steps.length ? steps[i] : 0;
        }

        /** The fault of the tape's text, or NONE. */
        int readTape() {
            at = 0;
            length = 0;
            return lines() && at == tape.length ? NONE : at;
        }

        private boolean lines() {
            if (!line()) return false;
            for (int i = 0; i < MOST_BYTES && passes(';'); i++) {
                if (!line()) return false;
            }
            return true;
        }

        private boolean line() {
            if (!either(0)) return false;
            if (passes('?')) {
                int jump = length;
                add(Law.JUMP);
                if (!either(0)) return false;
                add(Law.END);
                if (jump < steps.length) steps[jump] = Law.JUMP + length;
            } else {
                add(Law.END);
            }
            return true;
        }

        private boolean either(int open) {
            if (!both(open)) return false;
            for (int i = 0; i < MOST_BYTES && passes('|'); i++) {
                if (!both(open)) return false;
                add(-'|');
            }
            return true;
        }

        private boolean both(int open) {
            if (!compared(open)) return false;
            for (int i = 0; i < MOST_BYTES && passes('&'); i++) {
                if (!compared(open)) return false;
                add(-'&');
            }
            return true;
        }

        private boolean compared(int open) {
            if (!summed(open)) return false;
            int sign = tape.at(at);
            if (sign != '<' && sign != '=' && sign != '>') return true;
            at++;
            if (!summed(open)) return false;
            add(-sign);
            return true;
        }

        private boolean summed(int open) {
            if (!multiplied(open)) return false;
            for (int i = 0; i < MOST_BYTES; i++) {
                int sign = tape.at(at);
                if (sign != '+' && sign != '-') return true;
                at++;
                if (!multiplied(open)) return false;
                add(-sign);
            }
            return true;
        }

        private boolean multiplied(int open) {
            if (!single(open)) return false;
            for (int i = 0; i < MOST_BYTES; i++) {
                int sign = tape.at(at);
                if (sign != '*' && sign != '/' && sign != '%') return true;
                at++;
                if (!single(open)) return false;
                add(-sign);
            }
            return true;
        }

        private boolean single(int open) {
            int letter = tape.at(at);
            if (isDigit(letter)) {
                number();
                return true;
            }
            if (letter == 't' || letter == 'p' || letter == 'k' || letter == 'z') {
                at++;
                add(-letter);
                return true;
            }
            if (letter != '(' && letter != '!' && letter != '-') return false;
            if (open >= MOST_OPEN) return false;
            at++;
            if (letter == '(') return either(open + 1) && passes(')');
            if (!single(open + 1)) return false;
            add(letter == '-' ? Law.NEGATE : -letter);
            return true;
        }

        private void number() {
            int v = 0;
            for (int i = 0; i < MOST_DIGITS && isDigit(tape.at(at)); i++) {
                v = 10 * v + tape.at(at) - '0';
                at++;
            }
            add(v);
        }

        private boolean passes(int letter) {
            if (tape.at(at) != letter) return false;
            at++;
            return true;
        }

        private void add(int step) {
            if (length < 0 || length >= steps.length) return;
            steps[length] = step;
            length++;
        }

        private static boolean isDigit(int letter) {
            return letter >= '0' && letter <= '9';
        }
    }

    /** The nights as they pass, in deed (now) and in thought. */
    private static final class Nights {
        private static final int[] NEAR_LETTERS = {'w', 's', '1'};

        private final Wheels wheels;
        private final Law frost;
        private final Moment now = new Moment();
        private final Moment thought = new Moment();
        private final int[] shown = new int[MOST_TEETH];
        private int week = 7;
        // The first night in which a broken tooth of wheel 0 skipped, since this was set to NONE.
        private int skipNight = NONE;

        Nights(Wheels wheels, Law frost) {
            this.wheels = wheels;
            this.frost = frost;
        }

        void think() {
            thought.become(now, wheels.number);
        }

        /** Lets n nights pass; wheels from number upTo on aren't wanted and stay behind. */
        void pass(Moment moment, int n, int upTo) {
            for (int i = 0; i < n; i++) {
                moment.night++;
                boolean round = true;
                for (int w = 0; round && w < upTo && w < wheels.number; w++) round = pushed(moment, w);
            }
        }

        /** Pushes a wheel: whether it came round. */
        private boolean pushed(Moment moment, int wheel) {
            int place = moment.placeOf(wheel);
            int waits = moment.waitsOf(wheel);
            int letter = wheels.letterAt(wheel, place);
            int steps = 1;
            if (letter == 's') {
                steps = 2;
            } else if (letter == 'f') {
                steps = frost.valueAt(moment.night, place, wheel) != 0 ? 0 : 1;
            } else if (letter == 'b') {
                if (moment.night >= wheels.breakOf(wheel)) {
                    steps = 2;
                    if (wheel == 0 && skipNight == NONE) skipNight = moment.night;
                }
            } else if (letter != 'w') {
                steps = waits < letter - '0' ? 0 : 1;
                waits = steps == 0 ? waits + 1 : 0;
            }
            int size = wheels.sizeOf(wheel);
            boolean round = place + steps >= size;
            moment.stand(wheel, round ? left(place + steps, size) : place + steps, waits);
            return round;
        }

        int dayOf(int place) {
            return left(place, week);
        }

        int timesOfDay(int day, int n) {
            int times = 0;
            think();
            for (int i = 0; i < n; i++) {
                pass(thought, 1, 1);
                if (dayOf(thought.placeOf(0)) == day) times++;
            }
            return times;
        }

        /** The places of wheel 0 that n nights don't show: how many, or else the first. */
        int unshown(int n, boolean many) {
            for (int p = 0; p < shown.length; p++) shown[p] = 0;
            think();
            markShown();
            for (int i = 0; i < n; i++) {
                pass(thought, 1, 1);
                markShown();
            }
            int missing = 0;
            for (int p = 0; p < wheels.sizeOf(0) && p < shown.length; p++) {
                if (shown[p] == 0) {
                    if (!many) return p;
                    missing++;
                }
            }
            return many ? missing : NOT;
        }

        private void markShown() {
            int place = thought.placeOf(0);
            if (place >= 0 && place < shown.length) shown[place] = 1;
        }

        /** In n nights with a wheel at a place: the first of them, or else how many. */
        int timesAt(int wheel, int place, int n, boolean first) {
            int times = 0;
            think();
            for (int i = 1; i <= n; i++) {
                pass(thought, 1, wheel + 1);
                if (thought.placeOf(wheel) == place) {
                    if (first) return i;
                    times++;
                }
            }
            return first ? NOT : times;
        }

        int firstOfBoth(int wp, int vq, int n) {
            int upTo = Math.max(wp / 100, vq / 100) + 1;
            think();
            for (int i = 1; i <= n; i++) {
                pass(thought, 1, upTo);
                if (thought.placeOf(wp / 100) == wp % 100 && thought.placeOf(vq / 100) == vq % 100) return i;
            }
            return NOT;
        }

        int firstAsNow(int n) {
            think();
            for (int i = 1; i <= n; i++) {
                pass(thought, 1, wheels.number);
                if (thought.standsAs(now, wheels.number)) return i;
            }
            return NOT;
        }

        /** Goes on in thought, as far as it is, until wheel 0 is at a place; by how many nights. */
        int nightsTo(int place, int from, int most) {
            for (int i = 0; i <= most; i++) {
                if (i > 0) pass(thought, 1, 1);
                if (i >= from && thought.placeOf(0) == place) return i;
            }
            return NOT;
        }

        int wrongDays(int n) {
            int wrong = 0;
            int place = now.placeOf(0);
            int size = wheels.sizeOf(0);
            think();
            for (int i = 1; i <= n; i++) {
                pass(thought, 1, 1);
                if (dayOf(thought.placeOf(0)) != dayOf(left(place + i, size))) wrong++;
            }
            return wrong;
        }

        /** The one tooth of wheel 0 to be changed: which, to what; or else what is wrong then. */
        int nearest(int n, boolean which) {
            int change = NOT;
            int least = n + 1;
            for (int place = 0; place < wheels.sizeOf(0) && place < MOST_TEETH; place++) {
                int letter = wheels.letterAt(0, place);
                for (int other : NEAR_LETTERS) {
                    if (other == letter) continue;
                    wheels.setLetter(0, place, other);
                    int wrong = wrongDays(n);
                    if (wrong < least) {
                        least = wrong;
                        change = 1000 * place + other;
                    }
                }
                wheels.setLetter(0, place, letter);
            }
            return which ? change : least;
        }
    }

    /** Nights and places as they were recorded, kept by number and in the order of the nights too. */
    private static final class Records {
        private final int[] nights = new int[MOST_RECORDS];
        private final int[] places = new int[MOST_RECORDS];
        private final int[] byNight = new int[MOST_RECORDS];
        private int number;

        int nightOf(int r) {
            return r >= 0 && r < nights.length ? nights[r] : 0;
        }

        int placeOf(int r) {
            return r >= 0 && r < places.length ? places[r] : 0;
        }

        /** The number of the i-th record by night, so that one walk through the nights meets all. */
        int inOrder(int i) {
            return i >= 0 && i < byNight.length ? byNight[i] : 0;
        }

        int add(int night, int place) {
            int r = number;
            if (r < 0 || r >= nights.length || r >= places.length || r >= byNight.length) return FULL;
            nights[r] = night;
            places[r] = place;
            int at = r;
            for (int i = r; i > 0 && nightOf(byNight[i - 1]) > night; i--) {
                byNight[i] = byNight[i - 1];
                at = i - 1;
            }
            byNight[at] = r;
            number++;
            return r;
        }
    }

    /** What the records say of wheel 0. */
    private static final class Judging {
        private static final int[] FIT_LETTERS = {'w', 's', 'f', '1'};
        private static final int LAST_BREAK_TRIED = 400;
        private static final int WATCHED_NIGHTS = 10;

        private final Wheels wheels;
        private final Nights nights;
        private final Records recorded;
        // The place of wheel 0 on each watched night, a row for each letter.
        private final int[] watched = new int[4 * WATCHED_NIGHTS];
        // For each two letters the nights, as bits, on which they show unlike places.
        private final int[] unlike = new int[4 * 4];
        private int leastBreak;
        private int greatestBreak;
        private int manyBreaks;

        Judging(Wheels wheels, Nights nights, Records recorded) {
            this.wheels = wheels;
            this.nights = nights;
            this.recorded = recorded;
        }

        /** The wrong record of the least number, or else, sooner, any one; NOT if all are right. */
        int firstWrong(boolean any) {
            int wrong = NOT;
            Moment thought = nights.thought;
            nights.think();
            for (int i = 0; i < recorded.number; i++) {
                int r = recorded.inOrder(i);
                int night = recorded.nightOf(r);
                if (night < thought.night) continue;
                nights.pass(thought, night - thought.night, 1);
                if (thought.placeOf(0) == recorded.placeOf(r)) continue;
                if (any) return r;
                if (wrong == NOT || r < wrong) wrong = r;
            }
            return wrong;
        }

        /** The letters, as bits, that make all records right in a tooth's stead. */
        int fitting(int place) {
            int bits = 0;
            int letter = wheels.letterAt(0, place);
            for (int i = 0; i < FIT_LETTERS.length; i++) {
                wheels.setLetter(0, place, FIT_LETTERS[i]);
                if (firstWrong(true) == NOT) bits |= 1 << i;
            }
            wheels.setLetter(0, place, letter);
            return bits;
        }

        /** Finds the nights of a break that make all records right. */
        void tryBreaks() {
            int before = wheels.breakOf(0);
            leastBreak = NOT;
            greatestBreak = NOT;
            manyBreaks = 0;
            boolean right = false;
            int alikeUpTo = NONE;
            for (int v = 0; v <= LAST_BREAK_TRIED; v++) {
                if (v > alikeUpTo) {
                    wheels.setBreak(0, v);
                    nights.skipNight = NONE;
                    right = firstWrong(true) == NOT;
                    // All goes the same way for every later break up to the first night that skipped.
                    alikeUpTo = nights.skipNight == NONE ? LAST_BREAK_TRIED : nights.skipNight;
                }
                if (!right) continue;
                if (leastBreak == NOT) leastBreak = v;
                greatestBreak = v;
                manyBreaks++;
            }
            wheels.setBreak(0, before);
        }

        /** The fewest nights, as bits, that tell the letters that fit apart. */
        int fewestNights(int place, int fitting) {
            if (Integer.bitCount(fitting) < 2) return 0;
            watchLetters(place);
            compareLetters();
            int best = NOT;
            int fewest = WATCHED_NIGHTS + 1;
            for (int bits = 1; bits < 1 << WATCHED_NIGHTS; bits++) {
                int many = Integer.bitCount(bits);
                if (many < fewest && tellApart(bits, fitting)) {
                    best = bits;
                    fewest = many;
                }
            }
            return best;
        }

        private void watchLetters(int place) {
            int letter = wheels.letterAt(0, place);
            for (int i = 0; i < FIT_LETTERS.length; i++) {
                wheels.setLetter(0, place, FIT_LETTERS[i]);
                nights.think();
                for (int night = 0; night < WATCHED_NIGHTS; night++) {
                    nights.pass(nights.thought, 1, 1);
                    int at = WATCHED_NIGHTS * i + night;
                    if (at < watched.length) watched[at] = nights.thought.placeOf(0);
                }
            }
            wheels.setLetter(0, place, letter);
        }

        private void compareLetters() {
            for (int pair = 0; pair < unlike.length; pair++) {
                int bits = 0;
                for (int night = 0; night < WATCHED_NIGHTS; night++) {
                    int a = WATCHED_NIGHTS * (pair / 4) + night;
                    int b = WATCHED_NIGHTS * (pair % 4) + night;
                    if (a >= watched.length || b >= watched.length) continue;
                    if (watched[a] != watched[b]) bits |= 1 << night;
                }
                unlike[pair] = bits;
            }
        }

        private boolean tellApart(int bits, int fitting) {
            for (int pair = 0; pair < unlike.length; pair++) {
                int a = pair / 4;
                int b = pair % 4;
                boolean bothFit = (fitting >> a & 1) == 1 && (fitting >> b & 1) == 1;
                if (a < b && bothFit && (unlike[pair] & bits) == 0) return false;
            }
            return true;
        }
    }

    /** The latest changes of teeth and breaks: done of them stand, those behind may be done again. */
    private static final class Changes {
        private final int[] wheels = new int[MOST_CHANGES];
        // NONE stands for a change of the wheel's break.
        private final int[] places = new int[MOST_CHANGES];
        private final int[] befores = new int[MOST_CHANGES];
        private final int[] afters = new int[MOST_CHANGES];
        private int done;
        private int kept;

        int wheelAt(int i) {
            return i >= 0 && i < wheels.length ? wheels[i] : NONE;
        }

        int placeAt(int i) {
            return i >= 0 && i < places.length ? places[i] : NONE;
        }

        int beforeAt(int i) {
            return i >= 0 && i < befores.length ? befores[i] : 0;
        }

        int afterAt(int i) {
            return i >= 0 && i < afters.length ? afters[i] : 0;
        }

        /** Keeps a change; what is as it was is none, and leaves what may be done again too. */
        void add(int wheel, int place, int before, int after) {
            if (before == after) return;
            if (done >= MOST_CHANGES) dropOldest();
            write(done, wheel, place, before, after);
            done++;
            kept = done;
        }

        private void dropOldest() {
            for (int i = 1; i < MOST_CHANGES; i++) {
                write(i - 1, wheelAt(i), placeAt(i), beforeAt(i), afterAt(i));
            }
            done = MOST_CHANGES - 1;
        }

        private void write(int i, int wheel, int place, int before, int after) {
            if (i < 0 || i >= wheels.length || i >= places.length) return;
            if (i >= befores.length || i >= afters.length) return;
            wheels[i] = wheel;
            places[i] = place;
            befores[i] = before;
            afters[i] = after;
        }
    }

    /** Bodies of kinds, and their acts, some of which come from a kind above. */
    private static final class Bodies {
        private static final int TURNS = 0, SHOWS = 1, WAITS = 2, TELLS = 3;
        private static final int WHOLE = 1, SKIP = 2, STICK = 3, FROST = 4, LATE = 5, TOLD = 6, GOLD = 7;
        private static final int[] ABOVE = {NONE, 0, 0, SKIP, WHOLE, FROST, 0, TOLD};
        // For each kind its own body of turns, shows, waits, tells; 0 where it has none.
        private static final int[] OWN = {
            1, 10, 11, 2,
            20, 0, 0, 0,
            0, 30, 0, 0,
            0, 41, 40, 0,
            0, 0, 0, 50,
            0, 0, 60, 61,
            70, 0, 0, 0,
            81, 80, 0, 0};
        // The kinds let acts call one another some ten deep.
        private static final int MOST_DEPTH = 40;

        private final int[] kinds = new int[MOST_BODIES];
        private final int[] traced = new int[MOST_TRACE];
        private int number;
        private int ran;
        private int self;

        boolean has(int body) {
            return body >= 0 && body < number && body < kinds.length;
        }

        int add(int kind) {
            if (number < 0 || number >= kinds.length) return FULL;
            kinds[number] = kind;
            number++;
            return number - 1;
        }

        int kindOf(int body) {
            return body >= 0 && body < kinds.length ? kinds[body] : NONE;
        }

        boolean isUnder(int kind, int other) {
            int k = kind;
            for (int i = 0; i < KINDS && k >= 0 && k < ABOVE.length; i++) {
                if (k == other) return true;
                k = ABOVE[k];
            }
            return false;
        }

        void forgetTrace() {
            ran = 0;
        }

        int tracedAt(int i) {
            return i >= 0 && i < traced.length ? traced[i] : BAD;
        }

        int perform(int body, int act, int x) {
            self = body;
            return call(act, x, 0);
        }

        private int call(int act, int x, int depth) {
            return run(bodyFor(kindOf(self), act), x, depth + 1);
        }

        /** The act as it is above a kind. */
        private int above(int kind, int act, int x, int depth) {
            int next = kind >= 0 && kind < ABOVE.length ? ABOVE[kind] : NONE;
            return run(bodyFor(next, act), x, depth + 1);
        }

        private static int bodyFor(int kind, int act) {
            int k = kind;
            for (int i = 0; i < KINDS && k >= 0 && k < ABOVE.length; i++) {
                int own = ACTS * k + act;
                if (own >= 0 && own < OWN.length && OWN[own] != 0) return OWN[own];
                k = ABOVE[k];
            }
            return 0;
        }

        private int run(int number, int x, int depth) {
            if (depth > MOST_DEPTH) return 0;
            if (ran >= 0 && ran < traced.length) traced[ran] = number;
            ran++;
            switch (number) {
                case 1: return x + self;
                case 2: return call(SHOWS, x, depth) - call(WAITS, 1, depth);
                case 10: return call(TURNS, x, depth) * 2;
                case 11: return x ^ self;
                case 20: return above(WHOLE, TURNS, x, depth) + 3;
                case 30: return -above(SKIP, SHOWS, x, depth);
                case 40: return above(STICK, WAITS, x, depth) * 3;
                case 41: return above(STICK, SHOWS, x + 1, depth);
                case 50: return above(FROST, TELLS, x, depth) ^ 5;
                case 60: return above(LATE, WAITS, x, depth) - call(TURNS, 2, depth);
                case 61: return above(LATE, TELLS, x, depth) + 1;
                case 70: return above(TOLD, TURNS, x, depth) * 2;
                case 80: return above(GOLD, SHOWS, x, depth) + call(WAITS, 2, depth);
                case 81: return above(GOLD, TURNS, x, depth) - 1;
                default: return 0;
            }
        }
    }

    /** Shelves, each with nothing, a body or a row; of a body the size tells its number. */
    private static final class Shelves {
        private static final int NOTHING = -1, BYTES = 0, SHORTS = 1, INTS = 2, LONGS = 3, BODY = 5;

        private final int[] held = new int[MOST_SHELVES];
        private final int[] sizes = new int[MOST_SHELVES];
        private final long[] values = new long[MOST_SHELVES * MOST_ELEMENTS];

        Shelves() {
            for (int i = 0; i < held.length; i++) held[i] = NOTHING;
        }

        boolean has(int shelf) {
            return shelf >= 0 && shelf < held.length;
        }

        int heldBy(int shelf) {
            return has(shelf) ? held[shelf] : NOTHING;
        }

        int sizeOf(int shelf) {
            return shelf >= 0 && shelf < sizes.length ? sizes[shelf] : 0;
        }

        void hold(int shelf, int sort, int size) {
            if (!has(shelf) || shelf >= sizes.length) return;
            held[shelf] = sort;
            sizes[shelf] = size;
            int first = MOST_ELEMENTS * shelf;
            for (int i = 0; i < MOST_ELEMENTS && first + i < values.length; i++) values[first + i] = 0;
        }

        boolean hasElement(int shelf, int i) {
            int sort = heldBy(shelf);
            return sort != NOTHING && sort != BODY && i >= 0 && i < sizeOf(shelf);
        }

        /** Why there is no element i on a shelf; 0 if there is one. */
        int refusalAt(int shelf, int i) {
            int sort = heldBy(shelf);
            if (sort == NOTHING) return EMPTY_SHELF;
            if (sort == BODY) return OTHER_KIND;
            return i >= 0 && i < sizeOf(shelf) ? 0 : NO_PLACE;
        }

        boolean hasPart(int shelf, int i, int n) {
            return i >= 0 && n >= 0 && i <= sizeOf(shelf) && n <= sizeOf(shelf) - i;
        }

        long valueAt(int shelf, int i) {
            int at = MOST_ELEMENTS * shelf + i;
            return at >= 0 && at < values.length ? values[at] : 0;
        }

        void write(int shelf, int i, long v) {
            int at = MOST_ELEMENTS * shelf + i;
            if (at >= 0 && at < values.length) values[at] = lowest(heldBy(shelf), v);
        }

        private static long lowest(int sort, long v) {
            switch (sort) {
                case BYTES: return (byte) v;
                case SHORTS: return (short) v;
                case INTS: return (int) v;
                case LONGS: return v;
                default: return v != 0 ? 1 : 0;
            }
        }

        /** Moves n elements of one sort; from the far end on, where the near one would tread on them. */
        void move(int shelf, int i, int other, int j, int n) {
            boolean backward = j > i;
            for (int k = 0; k < n; k++) {
                int m = backward ? n - 1 - k : k;
                write(other, j + m, valueAt(shelf, i + m));
            }
        }
    }
}
