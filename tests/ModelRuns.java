import java.util.ArrayList;
import java.util.List;

/**
 * Random runs of calls, each answer held against a second writing of the document: one that keeps
 * everything in texts, lists and real classes, works every night out anew and knows no short cuts.
 */
public final class ModelRuns {
    private static final int RUNS = 1200;
    private static final int CALLS = 512;

    public static void main(String[] args) {
        int runs = args.length > 0 ? Integer.parseInt(args[0]) : RUNS;
        long[] seen = new long[40];
        for (int run = 0; run < runs; run++) {
            if (!new Run(run, seen).go()) System.exit(1);
        }
        for (int i = 0; i < seen.length; i++) {
            if (seen[i] == 0 && runs >= RUNS) {
                System.out.println("call " + i + " never came");
                System.exit(1);
            }
        }
        System.out.println(runs + " runs are as the model's");
    }

    // ------------------------------------------------------------------ the runs

    private static final class Dice {
        private long state;

        Dice(long seed) {
            state = seed * 0x9E3779B97F4A7C15L + 12345;
            for (int i = 0; i < 4; i++) below(7);
        }

        int below(int n) {
            state = state * 6364136223846793005L + 1442695040888963407L;
            return (int) ((state >>> 33) % n);
        }

        boolean oneIn(int n) {
            return below(n) == 0;
        }

        int of(int... choices) {
            return choices[below(choices.length)];
        }

        /** Mostly from .. to, now and then an edge of it or far beyond. */
        int around(int from, int to) {
            if (oneIn(25)) {
                return of(from - 1, to + 1, from, to, Integer.MIN_VALUE, Integer.MAX_VALUE, -1, 0, to + 100);
            }
            return from + below(to - from + 1);
        }
    }

    private static final class Run {
        private final int number;
        private final long[] seen;
        private final Dice dice;
        private final WheelSkips real = new WheelSkips();
        private final Model model = new Model();
        private final List<String> told = new ArrayList<>();
        private final int mood;

        Run(int number, long[] seen) {
            this.number = number;
            this.seen = seen;
            dice = new Dice(number);
            mood = dice.below(6);
        }

        boolean go() {
            int calls = 0;
            String pending = "";
            while (calls < CALLS) {
                if (pending.isEmpty() && wantsText()) pending = freshText();
                if (!pending.isEmpty()) {
                    char c = pending.charAt(0);
                    pending = pending.substring(1);
                    if (c == '\n') {
                        if (!same("wheel()", 1, real.wheel(), model.wheel())) return false;
                    } else if (c == '\t') {
                        if (!same("law()", 2, real.law(), model.law())) return false;
                    } else if (!same("feed(" + (int) c + ")", 0, real.feed(c), model.feed(c))) {
                        return false;
                    }
                } else if (!one()) {
                    return false;
                }
                calls++;
            }
            return true;
        }

        private boolean wantsText() {
            if (model.wheels.isEmpty() && !dice.oneIn(30)) return true;
            return dice.oneIn(mood == 0 ? 6 : 40);
        }

        private String freshText() {
            if (dice.oneIn(2) || model.wheels.isEmpty() && !dice.oneIn(4)) return wheelText() + "\n";
            StringBuilder law = new StringBuilder();
            int lines = 1 + dice.below(3);
            for (int i = 0; i < lines; i++) {
                if (i > 0) law.append(';');
                if (dice.oneIn(2)) law.append(expression(2)).append('?');
                law.append(expression(2));
            }
            if (dice.oneIn(8) && law.length() > 0) {
                int at = dice.below(law.length());
                law.setCharAt(at, "tpkz|&<=>+-*/%!()0123;?xw".charAt(dice.below(25)));
            }
            if (dice.oneIn(12)) law.setLength(dice.below(law.length() + 1));
            return law + "\t";
        }

        private String wheelText() {
            StringBuilder text = new StringBuilder();
            int length = dice.oneIn(4) ? dice.below(44) : 2 + dice.below(9);
            String letters = dice.of(0, 1, 2, 3) == 0 ? "wsfb123456789" : dice.oneIn(2) ? "wwwwwsf1b" : "wwwwfff2sbb";
            for (int i = 0; i < length; i++) text.append(letters.charAt(dice.below(letters.length())));
            if (dice.oneIn(15)) text.append((char) dice.below(256));
            return text.toString();
        }

        private String expression(int depth) {
            int pick = dice.below(depth <= 0 ? 6 : 16);
            switch (pick) {
                case 0: return "t";
                case 1: return dice.oneIn(2) ? "p" : "k";
                case 2: return "z";
                case 3: return "" + dice.below(10);
                case 4: return "" + dice.below(10000);
                case 5: return "z<" + dice.below(10);
                case 6: return "(" + expression(depth - 1) + ")";
                case 7: return "!" + expression(depth - 1);
                case 8: return "-" + expression(depth - 1);
                case 9: return "t%" + (2 + dice.below(9));
                default:
                    char sign = "|&<=>+-*/%".charAt(dice.below(10));
                    return expression(depth - 1) + sign + expression(depth - 1);
            }
        }

        private boolean same(String call, int which, long got, long want) {
            seen[which]++;
            told.add(call + " = " + want);
            if (got == want) return true;
            System.out.println("run " + number + ": " + call + " answered " + got + ", the model " + want);
            for (String line : told) System.out.println("    " + line);
            return false;
        }

        private int wheelNumber() {
            return model.wheels.isEmpty() ? dice.around(0, 3) : dice.around(0, model.wheels.size() - 1);
        }

        private int placeOn(int wheel) {
            if (wheel < 0 || wheel >= model.wheels.size()) return dice.around(0, 5);
            return dice.around(0, model.wheels.get(wheel).teeth.length() - 1);
        }

        private int spot() {
            int wheel = wheelNumber();
            if (dice.oneIn(30)) return dice.of(-1, 99, 140, 400, Integer.MAX_VALUE, Integer.MIN_VALUE);
            return 100 * (wheel & 7) + placeOn(wheel);
        }

        private int nightSpan(int most) {
            int[] spans = {5, 12, 40, 100, most};
            return dice.oneIn(40) ? dice.around(most, most) : dice.around(1, spans[dice.oneIn(9) ? 4 : dice.below(4)]);
        }

        private int letter() {
            return dice.oneIn(12) ? dice.of('0', ':', 'x', 0, -1, 'W', 1000) : "wsfb123456789".charAt(dice.below(13));
        }

        private boolean one() {
            if (mood >= 4 && dice.oneIn(2)) return aboutRows();
            switch (dice.below(9)) {
                case 0: return aboutWheels();
                case 1: case 2: return aboutNights();
                case 3: case 4: return aboutRecords();
                case 5: return aboutChanges();
                case 6: return aboutBodies();
                case 7: return aboutRows();
                default: {
                    int what = dice.around(0, 6);
                    return same("count(" + what + ")", 39, real.count(what), model.count(what));
                }
            }
        }

        private boolean aboutWheels() {
            int w = wheelNumber();
            int p = placeOn(w);
            switch (dice.below(5)) {
                case 0: {
                    int what = dice.around(0, 1);
                    int v = what == 0 ? dice.around(1, 9) : dice.around(-100000, 2000000);
                    return same("set(" + what + ", " + v + ")", 3, real.set(what, v), model.set(what, v));
                }
                case 1: case 2: {
                    int what = dice.oneIn(2) ? dice.around(0, 3) : 100 + p;
                    return same("of(" + w + ", " + what + ")", 6, real.of(w, what), model.of(w, what));
                }
                case 3: return same("lay(" + w + ", " + p + ")", 8, real.lay(w, p), model.lay(w, p));
                default: {
                    int n = dice.oneIn(mood == 3 ? 2 : 20) ? dice.around(1, 2000) : dice.around(1, 30);
                    return same("on(" + n + ")", 7, real.on(n), model.on(n));
                }
            }
        }

        private boolean aboutNights() {
            int n = nightSpan(2000);
            switch (dice.below(10)) {
                case 0: {
                    int w = wheelNumber();
                    int far = dice.oneIn(60) ? dice.around(0, 20000) : dice.around(0, 300);
                    return same("shows(" + w + ", " + far + ")", 9, real.shows(w, far), model.shows(w, far));
                }
                case 1: return same("day()", 10, real.day(), model.day());
                case 2: {
                    int day = dice.around(0, model.week - 1);
                    return same("often(" + day + ", " + n + ")", 11, real.often(day, n), model.often(day, n));
                }
                case 3: {
                    int what = dice.around(0, 1);
                    return same("never(" + n + ", " + what + ")", 12, real.never(n, what), model.never(n, what));
                }
                case 4: {
                    int wp = spot();
                    int what = dice.around(0, 1);
                    return same("meets(" + wp + ", " + n + ", " + what + ")", 13,
                        real.meets(wp, n, what), model.meets(wp, n, what));
                }
                case 5: {
                    int wp = spot();
                    int vq = spot();
                    int far = dice.oneIn(30) ? nightSpan(20000) : n;
                    return same("two(" + wp + ", " + vq + ", " + far + ")", 14,
                        real.two(wp, vq, far), model.two(wp, vq, far));
                }
                case 6: {
                    int far = dice.oneIn(30) ? nightSpan(20000) : n;
                    return same("round(" + far + ")", 15, real.round(far), model.round(far));
                }
                case 7: {
                    int ab = dice.oneIn(8) ? dice.of(-1, 40, 3939, 4000, 3940, 140, Integer.MIN_VALUE)
                        : 100 * Math.floorMod(placeOn(0), 41) + Math.floorMod(placeOn(0), 41);
                    return same("truth(" + ab + ")", 16, real.truth(ab), model.truth(ab));
                }
                default: {
                    int span = dice.oneIn(8) ? dice.around(1, 400) : dice.around(1, 30);
                    int what = dice.around(0, 2);
                    return same("near(" + span + ", " + what + ")", 17, real.near(span, what), model.near(span, what));
                }
            }
        }

        private boolean aboutRecords() {
            switch (dice.below(13)) {
                case 0: case 1: case 2: case 3: return recordOne();
                case 4: case 5: {
                    return same("judge()", 20, real.judge(), model.judge());
                }
                case 6: case 7: {
                    int p = placeOn(0);
                    return same("fits(" + p + ")", 21, real.fits(p), model.fits(p));
                }
                case 8: {
                    int what = dice.around(0, 1);
                    return same("sure(" + what + ")", 22, real.sure(what), model.sure(what));
                }
                case 9: {
                    int what = dice.around(0, 2);
                    return same("when(" + what + ")", 23, real.when(what), model.when(what));
                }
                case 10: case 11: {
                    int p = placeOn(0);
                    return same("watch(" + p + ")", 24, real.watch(p), model.watch(p));
                }
                default:
                    if (!dice.oneIn(3) && model.records.size() < 8) return recordOne();
                    return same("clear()", 25, real.clear(), model.clear());
            }
        }

        /** Mostly a record that is right, so that those after it count. */
        private boolean recordOne() {
            if (dice.oneIn(4)) {
                int shelf = dice.around(0, 5);
                int i = dice.oneIn(3) ? dice.around(0, 60) : 0;
                int n = dice.around(1, dice.oneIn(2) ? 30 : 3);
                return same("records(" + shelf + ", " + i + ", " + n + ")", 19,
                    real.records(shelf, i, n), model.records(shelf, i, n));
            }
            int night = model.night + dice.below(dice.oneIn(6) ? 300 : 14) - dice.below(2);
            int place = dice.around(0, 39);
            if (night >= model.night && night <= 5000 && !model.wheels.isEmpty() && !dice.oneIn(12)) {
                place = model.shows(0, night - model.night);
            }
            if (dice.oneIn(40)) night = dice.of(-1, 5000, 5001, Integer.MAX_VALUE);
            return same("record(" + night + ", " + place + ")", 18,
                real.record(night, place), model.record(night, place));
        }

        private boolean aboutChanges() {
            int w = wheelNumber();
            switch (dice.below(8)) {
                case 0: return same("image()", 26, real.image(), model.image());
                case 1: return same("back()", 27, real.back(), model.back());
                case 2: case 3: return same("undo()", 28, real.undo(), model.undo());
                case 4: return same("redo()", 29, real.redo(), model.redo());
                case 5: {
                    int v = dice.oneIn(4) ? dice.around(0, 9999) : dice.around(0, 60);
                    if (model.is(w) && dice.oneIn(4)) v = model.wheels.get(w).broke;
                    return same("broke(" + w + ", " + v + ")", 4, real.broke(w, v), model.broke(w, v));
                }
                default: {
                    int p = placeOn(w);
                    int letter = letter();
                    return same("tooth(" + w + ", " + p + ", " + letter + ")", 5,
                        real.tooth(w, p, letter), model.tooth(w, p, letter));
                }
            }
        }

        private boolean aboutBodies() {
            int b = model.bodies.isEmpty() ? dice.around(-1, 3) : dice.around(0, model.bodies.size() - 1);
            switch (dice.below(5)) {
                case 0: {
                    int kind = dice.around(0, 7);
                    return same("body(" + kind + ")", 30, real.body(kind), model.body(kind));
                }
                case 1: case 2: {
                    int act = dice.around(0, 3);
                    int x = dice.around(-20, 100);
                    return same("act(" + b + ", " + act + ", " + x + ")", 31, real.act(b, act, x), model.act(b, act, x));
                }
                case 3: {
                    int i = dice.around(0, 12);
                    return same("trace(" + i + ")", 32, real.trace(i), model.trace(i));
                }
                default: {
                    int shelf = dice.around(0, 5);
                    int body = dice.oneIn(5) ? -1 : b;
                    return same("keep(" + shelf + ", " + body + ")", 33, real.keep(shelf, body), model.keep(shelf, body));
                }
            }
        }

        private boolean aboutRows() {
            int shelf = dice.around(0, mood == 5 ? 2 : 5);
            int i = dice.around(0, dice.oneIn(3) ? 60 : 6);
            switch (dice.below(9)) {
                case 0: {
                    int sort = dice.oneIn(2) ? 1 : dice.around(0, 4);
                    int n = dice.around(0, 60);
                    return same("row(" + shelf + ", " + sort + ", " + n + ")", 34,
                        real.row(shelf, sort, n), model.row(shelf, sort, n));
                }
                case 1: case 2: case 3: {
                    long v = value();
                    return same("put(" + shelf + ", " + i + ", " + v + ")", 35, real.put(shelf, i, v), model.put(shelf, i, v));
                }
                case 4: case 5:
                    return same("element(" + shelf + ", " + i + ")", 36, real.element(shelf, i), model.element(shelf, i));
                case 6: case 7: {
                    int other = dice.oneIn(2) ? shelf : dice.around(0, mood == 5 ? 2 : 5);
                    int j = dice.around(0, dice.oneIn(3) ? 60 : 6);
                    int n = dice.around(0, dice.oneIn(3) ? 60 : 6);
                    return same("shift(" + shelf + ", " + i + ", " + other + ", " + j + ", " + n + ")", 37,
                        real.shift(shelf, i, other, j, n), model.shift(shelf, i, other, j, n));
                }
                default: {
                    int k = dice.around(0, 7);
                    return same("taken(" + shelf + ", " + k + ")", 38, real.taken(shelf, k), model.taken(shelf, k));
                }
            }
        }

        private long value() {
            if (dice.oneIn(5)) {
                long[] far = {300, -129, 40000, 70000, 65536, 1L << 40, (1L << 40) + 5, Long.MIN_VALUE, 4294967296L};
                return far[dice.below(far.length)];
            }
            return dice.oneIn(2) ? dice.below(40) : model.night + dice.below(10);
        }
    }

    // ------------------------------------------------------------------ the model

    private static final class MWheel {
        String teeth;
        int place;
        int waits;
        int broke;

        MWheel copy() {
            MWheel w = new MWheel();
            w.teeth = teeth;
            w.place = place;
            w.waits = waits;
            w.broke = broke;
            return w;
        }

        void cut(int p, char letter) {
            teeth = teeth.substring(0, p) + letter + teeth.substring(p + 1);
        }
    }

    /** A state that nights pass in; copied whole for every thought. */
    private static final class World {
        int night;
        int seed;
        String law = "";
        List<MWheel> wheels = new ArrayList<>();

        World copy() {
            World other = new World();
            other.night = night;
            other.seed = seed;
            other.law = law;
            for (MWheel w : wheels) other.wheels.add(w.copy());
            return other;
        }

        void night() {
            night++;
            push(0);
        }

        void push(int k) {
            if (k >= wheels.size()) return;
            MWheel w = wheels.get(k);
            char letter = w.teeth.charAt(w.place);
            if (letter == 'w') on(w, k, 1);
            else if (letter == 's') on(w, k, 2);
            else if (letter == 'b') on(w, k, night < w.broke ? 1 : 2);
            else if (letter == 'f') {
                if (!cold(w.place, k)) on(w, k, 1);
            } else if (w.waits < letter - '0') {
                w.waits++;
            } else {
                w.waits = 0;
                on(w, k, 1);
            }
        }

        private void on(MWheel w, int k, int steps) {
            w.place += steps;
            if (w.place >= w.teeth.length()) {
                w.place %= w.teeth.length();
                push(k + 1);
            }
        }

        private boolean cold(int p, int k) {
            if (law.isEmpty()) return false;
            for (String line : law.split(";")) {
                int q = line.indexOf('?');
                if (q < 0) return new Sum(line, night, p, k, seed).all() != 0;
                if (new Sum(line.substring(0, q), night, p, k, seed).all() != 0) {
                    return new Sum(line.substring(q + 1), night, p, k, seed).all() != 0;
                }
            }
            return false;
        }
    }

    /** Works a text out as it reads it; a text that is wrong is told by a Fault. */
    private static final class Sum {
        private final String text;
        private final int t;
        private final int p;
        private final int k;
        private final int seed;
        private int at;

        Sum(String text, int t, int p, int k, int seed) {
            this.text = text;
            this.t = t;
            this.p = p;
            this.k = k;
            this.seed = seed;
        }

        /** The place of the fault of a whole law, or -1. */
        static int faultOf(String law) {
            Sum sum = new Sum(law, 1, 1, 1, 1);
            try {
                do {
                    sum.level(0, 0);
                    if (sum.skip("?") != 0) sum.level(0, 0);
                } while (sum.skip(";") != 0);
                return sum.at == law.length() ? -1 : sum.at;
            } catch (IllegalStateException fault) {
                return sum.at;
            }
        }

        int all() {
            return level(0, 0);
        }

        private static final String[] SIGNS = {"|", "&", "<=>", "+-", "*/%"};

        private int level(int rank, int open) {
            if (rank == 5) return single(open);
            int a = level(rank + 1, open);
            while (true) {
                char sign = skip(SIGNS[rank]);
                if (sign == 0) return a;
                a = both(sign, a, level(rank + 1, open));
                if (rank == 2) return a;
            }
        }

        private int single(int open) {
            int from = at;
            while (at < text.length() && at - from < 4 && Character.isDigit(text.charAt(at))) at++;
            if (at > from) return Integer.parseInt(text.substring(from, at));
            switch (skip("tpkz")) {
                case 't': return t;
                case 'p': return p;
                case 'k': return k;
                case 'z': return (int) (((t * 1103515245L + seed & 0xFFFFFFFFL) >> 8) % 10);
                default: break;
            }
            if (open == 6) throw new IllegalStateException();
            char sign = skip("(!-");
            if (sign == 0) throw new IllegalStateException();
            if (sign == '!') return single(open + 1) == 0 ? 1 : 0;
            if (sign == '-') return -single(open + 1);
            int v = level(0, open + 1);
            if (skip(")") == 0) throw new IllegalStateException();
            return v;
        }

        private char skip(String signs) {
            if (at < text.length() && signs.indexOf(text.charAt(at)) >= 0) return text.charAt(at++);
            return 0;
        }

        private static int both(char sign, int a, int b) {
            switch (sign) {
                case '|': return a != 0 | b != 0 ? 1 : 0;
                case '&': return a != 0 & b != 0 ? 1 : 0;
                case '<': return a < b ? 1 : 0;
                case '=': return a == b ? 1 : 0;
                case '>': return a > b ? 1 : 0;
                case '+': return a + b;
                case '-': return a - b;
                case '*': return a * b;
                case '/': return b == 0 ? 0 : (int) ((long) a / b);
                default: return b == 0 ? 0 : (int) ((long) a % b);
            }
        }
    }

    // The kinds, as real classes: what they do is Java's own.

    private static int[] ranNumbers = new int[0];

    private static int ran(int number) {
        ranNumbers = java.util.Arrays.copyOf(ranNumbers, ranNumbers.length + 1);
        ranNumbers[ranNumbers.length - 1] = number;
        return 0;
    }

    private interface Turns {
        int number();

        default int turns(int x) {
            ran(1);
            return x + number();
        }
    }

    private interface Tells {
        int shows(int x);

        int waits(int x);

        default int tells(int x) {
            ran(2);
            return shows(x) - waits(1);
        }
    }

    private static class Tooth implements Turns, Tells {
        int number;

        public int number() {
            return number;
        }

        public int shows(int x) {
            ran(10);
            return turns(x) * 2;
        }

        public int waits(int x) {
            ran(11);
            return x ^ number;
        }
    }

    private static class Whole extends Tooth {
        public int turns(int x) {
            ran(20);
            return super.turns(x) + 3;
        }
    }

    private static class Skip extends Tooth {
        public int shows(int x) {
            ran(30);
            return -super.shows(x);
        }
    }

    private static class Stick extends Skip {
        public int waits(int x) {
            ran(40);
            return super.waits(x) * 3;
        }

        public int shows(int x) {
            ran(41);
            return super.shows(x + 1);
        }
    }

    private static class Frost extends Whole {
        public int tells(int x) {
            ran(50);
            return super.tells(x) ^ 5;
        }
    }

    private static class Late extends Frost {
        public int waits(int x) {
            ran(60);
            return super.waits(x) - turns(2);
        }

        public int tells(int x) {
            ran(61);
            return super.tells(x) + 1;
        }
    }

    private static class Told extends Tooth {
        public int turns(int x) {
            ran(70);
            return super.turns(x) * 2;
        }
    }

    private static class Gold extends Told {
        public int shows(int x) {
            ran(80);
            return super.shows(x) + waits(2);
        }

        public int turns(int x) {
            ran(81);
            return super.turns(x) - 1;
        }
    }

    private static final Class<?>[] KINDS = {Tooth.class, Whole.class, Skip.class, Stick.class,
        Frost.class, Late.class, Told.class, Gold.class};

    private static final class Change {
        int wheel;
        int place;
        int before;
        int after;
    }

    private static final class Model extends ModelBase {
        // what the document's first and second parts ask for

        int feed(int letter) {
            if (letter < 0 || letter > 255) return -1;
            if (tape.length() == 120) return -3;
            tape += (char) letter;
            return tape.length();
        }

        int wheel() {
            if (wheels.size() == 4) return -3;
            String text = tape;
            tape = "";
            int fault = 0;
            while (fault < text.length() && fault < 40 && "wsfb123456789".indexOf(text.charAt(fault)) >= 0) fault++;
            if (fault < text.length() || text.length() < 2) return -100 - fault;
            MWheel w = new MWheel();
            w.teeth = text;
            wheels.add(w);
            return wheels.size() - 1;
        }

        int law() {
            String text = tape;
            tape = "";
            int fault = Sum.faultOf(text);
            if (fault >= 0) return -100 - fault;
            law = text;
            return 1;
        }

        int set(int what, int v) {
            int was = -2000000000;
            if (what == 0 && v > 0 && v < 10) {
                was = week;
                week = v;
            } else if (what == 1) {
                was = seed;
                seed = v;
            }
            return was;
        }

        int broke(int w, int v) {
            if (!is(w) || v < 0 || v > 9999) return -1;
            int was = wheels.get(w).broke;
            change(w, -1, was, v);
            return was;
        }

        int tooth(int w, int p, int letter) {
            if (!is(w, p) || letter < 0 || letter > 255 || "wsfb123456789".indexOf((char) letter) < 0) return -1;
            int was = wheels.get(w).teeth.charAt(p);
            change(w, p, was, letter);
            return was;
        }

        private void change(int w, int p, int before, int after) {
            if (before == after) return;
            Change c = new Change();
            c.wheel = w;
            c.place = p;
            c.before = before;
            c.after = after;
            doneAgain.clear();
            undoable.add(c);
            if (undoable.size() > 40) undoable.remove(0);
            make(c, after);
        }

        private void make(Change c, int v) {
            if (c.place < 0) wheels.get(c.wheel).broke = v;
            else wheels.get(c.wheel).cut(c.place, (char) v);
        }

        int undo() {
            if (undoable.isEmpty()) return -5;
            Change c = undoable.remove(undoable.size() - 1);
            make(c, c.before);
            doneAgain.add(c);
            return undoable.size();
        }

        int redo() {
            if (doneAgain.isEmpty()) return -5;
            Change c = doneAgain.remove(doneAgain.size() - 1);
            make(c, c.after);
            undoable.add(c);
            return doneAgain.size();
        }

        int of(int w, int what) {
            if (!is(w)) return -1;
            MWheel x = wheels.get(w);
            if (what == 0) return x.teeth.length();
            if (what == 1) return x.place;
            if (what == 2) return x.waits;
            if (what == 3) return x.broke;
            return what >= 100 && is(w, what - 100) ? x.teeth.charAt(what - 100) : -1;
        }

        int on(int n) {
            if (n < 1 || n > 2000) return -1;
            if (night + n > 1000000) return -3;
            for (int i = 0; i < n; i++) night();
            return night;
        }

        int lay(int w, int p) {
            if (!is(w, p)) return -1;
            int was = wheels.get(w).place;
            wheels.get(w).place = p;
            wheels.get(w).waits = 0;
            return was;
        }

        int shows(int w, int n) {
            if (!is(w) || n < 0 || n > 20000) return -1;
            World world = copy();
            for (int i = 0; i < n; i++) world.night();
            return world.wheels.get(w).place;
        }

        int day() {
            return wheels.isEmpty() ? -5 : wheels.get(0).place % week;
        }

        int often(int day, int n) {
            if (n < 1 || n > 2000 || day < 0 || day >= week) return -1;
            if (wheels.isEmpty()) return -5;
            int times = 0;
            for (int p : placesOf(0, n, copy())) if (p % week == day) times++;
            return times;
        }

        int never(int n, int what) {
            if (n < 1 || n > 2000 || what != 0 && what != 1) return -1;
            if (wheels.isEmpty()) return -5;
            List<Integer> missing = new ArrayList<>();
            for (int p = 0; p < wheels.get(0).teeth.length(); p++) missing.add(p);
            missing.remove((Integer) wheels.get(0).place);
            for (Integer p : placesOf(0, n, copy())) missing.remove(p);
            if (what == 0) return missing.size();
            return missing.isEmpty() ? -2 : missing.get(0);
        }

        int meets(int wp, int n, int what) {
            if (!isSpot(wp) || n < 1 || n > 2000 || what != 0 && what != 1) return -1;
            int[] places = placesOf(wp / 100, n, copy());
            int times = 0;
            for (int i = n - 1; i >= 0; i--) {
                if (places[i] == wp % 100) times = what == 0 ? times + 1 : i + 1;
            }
            return what == 1 && times == 0 ? -2 : times;
        }

        int two(int wp, int vq, int n) {
            if (!isSpot(wp) || !isSpot(vq) || n < 1 || n > 20000) return -1;
            World world = copy();
            for (int i = 1; i <= n; i++) {
                world.night();
                if (world.wheels.get(wp / 100).place == wp % 100 && world.wheels.get(vq / 100).place == vq % 100) return i;
            }
            return -2;
        }

        int round(int n) {
            if (n < 1 || n > 20000) return -1;
            World world = copy();
            for (int i = 1; i <= n; i++) {
                world.night();
                boolean same = true;
                for (int w = 0; w < wheels.size(); w++) {
                    same &= world.wheels.get(w).place == wheels.get(w).place;
                    same &= world.wheels.get(w).waits == wheels.get(w).waits;
                }
                if (same) return i;
            }
            return -2;
        }

        int truth(int ab) {
            if (ab < 0 || ab > 3939 || ab % 100 > 39) return -1;
            if (wheels.isEmpty()) return -5;
            int[] places = placesOf(0, 4000, copy());
            int a = 0;
            int place = wheels.get(0).place;
            while (place != ab / 100) {
                if (a == 2000) return -2;
                place = places[a];
                a++;
            }
            for (int between = 1; between <= 2000; between++) {
                if (places[a + between - 1] == ab % 100) return between;
            }
            return -2;
        }

        int near(int n, int what) {
            if (n < 1 || n > 400 || what < 0 || what > 2) return -1;
            if (wheels.isEmpty()) return -5;
            if (what == 2) return wrong(n, copy());
            int least = Integer.MAX_VALUE;
            int which = 0;
            for (int p = 0; p < wheels.get(0).teeth.length(); p++) {
                for (char letter : "ws1".toCharArray()) {
                    if (wheels.get(0).teeth.charAt(p) == letter) continue;
                    World world = copy();
                    world.wheels.get(0).cut(p, letter);
                    int wrong = wrong(n, world);
                    if (wrong < least) {
                        least = wrong;
                        which = 1000 * p + letter;
                    }
                }
            }
            return what == 0 ? which : least;
        }

        private int wrong(int n, World world) {
            int wrong = 0;
            int from = world.wheels.get(0).place;
            int size = world.wheels.get(0).teeth.length();
            int[] places = placesOf(0, n, world);
            for (int i = 1; i <= n; i++) {
                if (places[i - 1] % week != (from + i) % size % week) wrong++;
            }
            return wrong;
        }

        // records

        int record(int n, int p) {
            if (n < 0 || n > 5000 || p < 0 || p > 39) return -1;
            if (records.size() == 40) return -3;
            records.add(new int[] {n, p});
            return records.size() - 1;
        }

        int records(int shelf, int i, int n) {
            if (shelf < 0 || shelf > 5 || n < 1 || n > 30) return -1;
            if (shelves[shelf] != null && !(shelves[shelf] instanceof short[])) return -12;
            int came = 0;
            try {
                short[] row = (short[]) shelves[shelf];
                while (came < n && record(row[i + 2 * came], row[i + 2 * came + 1]) >= 0) came++;
            } catch (NullPointerException | ArrayIndexOutOfBoundsException end) {
                return came;
            }
            return came;
        }

        int clear() {
            int n = records.size();
            records.clear();
            return n;
        }

        private int firstWrong(World world) {
            int last = night;
            for (int[] r : records) last = Math.max(last, r[0]);
            int[] places = placesOf(0, last - night, world);
            for (int i = 0; i < records.size(); i++) {
                int after = records.get(i)[0] - night;
                if (after < 0) continue;
                int place = after == 0 ? wheels.get(0).place : places[after - 1];
                if (place != records.get(i)[1]) return i;
            }
            return -2;
        }

        int judge() {
            return wheels.isEmpty() ? -5 : firstWrong(copy());
        }

        int fits(int p) {
            if (!is(0, p)) return -1;
            int bits = 0;
            for (int i = 0; i < 4; i++) {
                if (firstWrong(withTooth(p, "wsf1".charAt(i))) == -2) bits += 1 << i;
            }
            return bits;
        }

        private World withTooth(int p, char letter) {
            World world = copy();
            world.wheels.get(0).cut(p, letter);
            return world;
        }

        int sure(int what) {
            if (what != 0 && what != 1) return -1;
            if (wheels.isEmpty()) return -5;
            List<Integer> sure = new ArrayList<>();
            for (int p = 0; p < wheels.get(0).teeth.length(); p++) {
                int bits = fits(p);
                if (bits == 1 || bits == 2 || bits == 4 || bits == 8) sure.add(p);
            }
            if (what == 0) return sure.size();
            return sure.isEmpty() ? -2 : sure.get(0);
        }

        int when(int what) {
            if (what < 0 || what > 2) return -1;
            if (wheels.isEmpty()) return -5;
            List<Integer> right = new ArrayList<>();
            for (int v = 0; v <= 400; v++) {
                World world = copy();
                world.wheels.get(0).broke = v;
                if (firstWrong(world) == -2) right.add(v);
            }
            if (what == 2) return right.size();
            if (right.isEmpty()) return -2;
            return what == 0 ? right.get(0) : right.get(right.size() - 1);
        }

        int watch(int p) {
            if (!is(0, p)) return -1;
            int bits = fits(p);
            List<int[]> ways = new ArrayList<>();
            for (int i = 0; i < 4; i++) {
                if ((bits & 1 << i) != 0) ways.add(placesOf(0, 10, withTooth(p, "wsf1".charAt(i))));
            }
            if (ways.size() < 2) return 0;
            for (int many = 1; many <= 10; many++) {
                for (int set = 1; set < 1024; set++) {
                    if (Integer.bitCount(set) == many && apart(ways, set)) return set;
                }
            }
            return -2;
        }

        private boolean apart(List<int[]> ways, int set) {
            for (int a = 0; a < ways.size(); a++) {
                for (int b = 0; b < a; b++) {
                    boolean unlike = false;
                    for (int night = 0; night < 10; night++) {
                        unlike |= (set & 1 << night) != 0 && ways.get(a)[night] != ways.get(b)[night];
                    }
                    if (!unlike) return false;
                }
            }
            return true;
        }

        int image() {
            image = copy();
            return night;
        }

        int back() {
            if (image == null) return -5;
            night = image.night;
            for (int w = 0; w < image.wheels.size(); w++) {
                wheels.get(w).place = image.wheels.get(w).place;
                wheels.get(w).waits = image.wheels.get(w).waits;
            }
            return night;
        }

        // acts, shelves

        int body(int kind) {
            if (kind < 0 || kind > 7) return -1;
            if (bodies.size() == 50) return -3;
            Tooth[] fresh = {new Tooth(), new Whole(), new Skip(), new Stick(),
                new Frost(), new Late(), new Told(), new Gold()};
            Tooth body = fresh[kind];
            body.number = bodies.size();
            bodies.add(body);
            return body.number;
        }

        int act(int body, int act, int x) {
            ranNumbers = new int[0];
            int answer = 0;
            if (body >= 0 && body < bodies.size()) {
                Tooth b = bodies.get(body);
                if (act == 0) answer = b.turns(x);
                if (act == 1) answer = b.shows(x);
                if (act == 2) answer = b.waits(x);
                if (act == 3) answer = b.tells(x);
            }
            traced = ranNumbers;
            return answer;
        }

        int trace(int i) {
            return i >= 0 && i < traced.length && i < 24 ? traced[i] : -1;
        }

        int keep(int shelf, int body) {
            if (shelf < 0 || shelf > 5 || body < -1 || body >= bodies.size()) return -1;
            shelves[shelf] = body < 0 ? null : bodies.get(body);
            return 1;
        }

        int row(int shelf, int sort, int n) {
            if (shelf < 0 || shelf > 5 || sort < 0 || sort > 4 || n > 60) return -1;
            try {
                if (sort == 0) shelves[shelf] = new byte[n];
                if (sort == 1) shelves[shelf] = new short[n];
                if (sort == 2) shelves[shelf] = new int[n];
                if (sort == 3) shelves[shelf] = new long[n];
                if (sort == 4) shelves[shelf] = new boolean[n];
                return 1;
            } catch (NegativeArraySizeException size) {
                return -14;
            }
        }

        int put(int shelf, int i, long v) {
            if (shelf < 0 || shelf > 5) return -1;
            Object held = shelves[shelf];
            try {
                if (held == null) return -11;
                else if (held instanceof byte[]) ((byte[]) held)[i] = (byte) v;
                else if (held instanceof short[]) ((short[]) held)[i] = (short) v;
                else if (held instanceof int[]) ((int[]) held)[i] = (int) v;
                else if (held instanceof long[]) ((long[]) held)[i] = v;
                else if (held instanceof boolean[]) ((boolean[]) held)[i] = v != 0;
                else return -12;
                return 1;
            } catch (ArrayIndexOutOfBoundsException place) {
                return -13;
            }
        }

        long element(int shelf, int i) {
            if (shelf < 0 || shelf > 5) return Long.MIN_VALUE;
            Object held = shelves[shelf];
            try {
                if (held instanceof byte[]) return ((byte[]) held)[i];
                if (held instanceof short[]) return ((short[]) held)[i];
                if (held instanceof int[]) return ((int[]) held)[i];
                if (held instanceof long[]) return ((long[]) held)[i];
                if (held instanceof boolean[]) return ((boolean[]) held)[i] ? 1 : 0;
            } catch (ArrayIndexOutOfBoundsException place) {
                return Long.MIN_VALUE;
            }
            return Long.MIN_VALUE;
        }

        @SuppressWarnings("SuspiciousSystemArraycopy")
        int shift(int shelf, int i, int other, int j, int n) {
            if (shelf < 0 || shelf > 5 || other < 0 || other > 5) return -1;
            try {
                System.arraycopy(shelves[shelf], i, shelves[other], j, n);
                return n;
            } catch (NullPointerException nothing) {
                return -11;
            } catch (ArrayStoreException kind) {
                return -12;
            } catch (IndexOutOfBoundsException place) {
                return -13;
            }
        }

        int taken(int shelf, int k) {
            if (shelf < 0 || shelf > 5 || k < 0 || k > 7) return -1;
            if (shelves[shelf] == null) return -11;
            if (!KINDS[k].isInstance(shelves[shelf])) return -12;
            int kind = 0;
            while (KINDS[kind] != shelves[shelf].getClass()) kind++;
            return kind;
        }

        int count(int what) {
            int[] counts = {wheels.size(), night, records.size(), tape.length(), undoable.size(), bodies.size(), traced.length};
            return what >= 0 && what < counts.length ? counts[what] : -1;
        }

        private boolean is(int w) {
            return w >= 0 && w < wheels.size();
        }

        private boolean is(int w, int p) {
            return is(w) && p >= 0 && p < wheels.get(w).teeth.length();
        }

        private boolean isSpot(int wp) {
            return wp >= 0 && is(wp / 100, wp % 100);
        }
    }

    private static class ModelBase {
        int night;
        int week = 7;
        int seed;
        String tape = "";
        String law = "";
        List<MWheel> wheels = new ArrayList<>();
        List<int[]> records = new ArrayList<>();
        List<Change> undoable = new ArrayList<>();
        List<Change> doneAgain = new ArrayList<>();
        World image;
        List<Tooth> bodies = new ArrayList<>();
        int[] traced = new int[0];
        Object[] shelves = new Object[6];

        World copy() {
            World world = new World();
            world.night = night;
            world.seed = seed;
            world.law = law;
            for (MWheel w : wheels) world.wheels.add(w.copy());
            return world;
        }

        void night() {
            World world = copy();
            world.night();
            night = world.night;
            wheels = world.wheels;
        }

        int[] placesOf(int w, int n, World world) {
            int[] places = new int[n];
            for (int i = 0; i < n; i++) {
                world.night();
                places[i] = world.wheels.get(w).place;
            }
            return places;
        }
    }
}
