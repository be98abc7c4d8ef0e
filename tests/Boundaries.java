import java.lang.reflect.InvocationTargetException;
import java.lang.reflect.Method;
import java.lang.reflect.Modifier;
import java.nio.charset.StandardCharsets;
import java.nio.file.Files;
import java.nio.file.Path;
import java.util.ArrayList;
import java.util.List;
import java.util.TreeMap;

/**
 * Each boundary that a sentence of the document names, in a test of its own: the call just within
 * it, the one just beyond it, and, of a call that is refused, that all is as it was behind it.
 * A test's name begins with its promise's number; its first line tells the document's words.
 */
public final class Boundaries {
    private static final int BAD = -1, NOT = -2, FULL = -3, STATE = -5, VOID = -2000000000;
    private static final int EMPTY = -11, KIND = -12, PLACE = -13, SIZE = -14;
    private static final int MIN = Integer.MIN_VALUE, MAX = Integer.MAX_VALUE;
    private static final long NONE = Long.MIN_VALUE;
    private static final int PROMISES = 41;

    private interface Maker {
        WheelSkips make();
    }

    private interface Call {
        long on(WheelSkips x);
    }

    private interface CallWith {
        long on(WheelSkips x, int v);
    }

    private static final Maker RICH = () -> rich("w3s");
    private static final Maker WHEELLESS = () -> wheelless();
    private static final Maker FULL_TAPE = () -> withFullTape();
    private static final Maker FOUR_WHEELS = () -> withFourWheels();

    private static String document = "";
    private static String test = "";
    private static int held;
    private static int wrong;

    public static void main(String[] args) throws Exception {
        document = spaced(Files.readString(Path.of("../shared/DOC.md"), StandardCharsets.UTF_8));
        TreeMap<String, Method> tests = new TreeMap<>();
        for (Method m : Boundaries.class.getDeclaredMethods()) {
            if (m.getName().matches("p\\d\\d[A-Z]\\w*") && Modifier.isStatic(m.getModifiers())) tests.put(m.getName(), m);
        }
        for (int p = 1; p <= PROMISES; p++) {
            String name = String.format("p%02d", p);
            String first = tests.ceilingKey(name);
            if (first == null || !first.startsWith(name)) tell("no test of promise " + p);
        }
        for (Method m : tests.values()) {
            test = m.getName();
            int before = held;
            try {
                m.invoke(null);
            } catch (InvocationTargetException e) {
                tell("threw " + e.getCause());
            }
            if (held == before) tell("looked at nothing");
        }
        System.out.println(tests.size() + " boundaries, " + held + " answers looked at, " + wrong + " wrong");
        if (wrong != 0) System.exit(1);
    }

    // ------------------------------------------------------------------ how a boundary is looked at

    private static void tell(String what) {
        wrong++;
        System.out.println(test + ": " + what);
    }

    private static String spaced(String text) {
        return text.replaceAll("\\s+", " ");
    }

    /** The words that name the boundary; they must stand in the document. */
    private static void says(String words) {
        if (!document.contains(spaced(words))) tell("the document does not say: " + words);
    }

    private static void due(String call, long got, long want) {
        held++;
        if (got != want) tell(call + " answered " + got + ", due is " + want);
    }

    /** A call that can't be answered: what it answers, and that all is as on a twin without the call. */
    private static void refused(Maker maker, String call, long want, Call made) {
        WheelSkips x = maker.make();
        due(call, made.on(x), want);
        alike("behind " + call, x, maker.make());
    }

    private static void refusedFor(Maker maker, String call, long want, CallWith made, int... values) {
        for (int v : values) refused(maker, call + " with " + v, want, x -> made.on(x, v));
    }

    /** A call that is answered leaves all as it was, too. */
    private static void changesNothing(Maker maker, String call, Call made) {
        WheelSkips x = maker.make();
        made.on(x);
        alike("behind " + call, x, maker.make());
    }

    /** Two objects answer all that can be asked alike; neither is of use behind it. */
    private static void alike(String what, WheelSkips x, WheelSkips y) {
        List<Long> had = look(x);
        List<Long> wanted = look(y);
        held++;
        for (int i = 0; i < Math.min(had.size(), wanted.size()); i++) {
            if (!had.get(i).equals(wanted.get(i))) {
                tell(what + " answer " + i + " of a look is " + had.get(i) + ", due is " + wanted.get(i));
                return;
            }
        }
        if (had.size() != wanted.size()) tell(what + " a look has " + had.size() + " answers, due are " + wanted.size());
    }

    private static List<Long> look(WheelSkips x) {
        List<Long> seen = new ArrayList<>();
        seen.add((long) x.count(1));
        if (seen.get(0) > 900000) {
            // So late an object has hardly a call left of its 512.
            for (int what = 0; what <= 2; what++) seen.add((long) x.of(0, what));
            seen.add((long) x.shows(0, 1));
            return seen;
        }
        for (int what = 0; what <= 6; what++) seen.add((long) x.count(what));
        int changes = x.count(4);
        lookAtTrace(x, seen);
        lookAtWheels(x, seen);
        lookAtRecords(x, seen);
        if (changes <= 10) lookAtShelves(x, seen);
        lookAtBodies(x, seen);
        lookAtChanges(x, seen);
        seen.add((long) x.back());
        lookAtPlaces(x, seen);
        lookAtTape(x, seen);
        seen.add((long) x.judge());
        seen.add((long) x.set(0, 7));
        seen.add((long) x.set(1, 0));
        return seen;
    }

    private static void lookAtTrace(WheelSkips x, List<Long> seen) {
        int ran = x.count(6);
        for (int i = 0; i <= ran && i < 24; i++) seen.add((long) x.trace(i));
    }

    private static void lookAtWheels(WheelSkips x, List<Long> seen) {
        for (int w = 0; w < 4; w++) {
            for (int what = 0; what <= 3; what++) seen.add((long) x.of(w, what));
            for (int p = 0; p < 7; p++) seen.add((long) x.of(w, 100 + p));
            for (int n : new int[] {1, 2, 3, 5, 8, 13, 40}) seen.add((long) x.shows(w, n));
        }
        seen.add((long) x.day());
        seen.add((long) x.often(0, 50));
    }

    private static void lookAtPlaces(WheelSkips x, List<Long> seen) {
        seen.add((long) x.count(1));
        for (int w = 0; w < 4; w++) {
            seen.add((long) x.of(w, 1));
            seen.add((long) x.of(w, 2));
        }
    }

    private static void lookAtRecords(WheelSkips x, List<Long> seen) {
        seen.add((long) x.judge());
        for (int p = 0; p < 6; p++) seen.add((long) x.fits(p));
        for (int what = 0; what <= 2; what++) seen.add((long) x.when(what));
    }

    private static void lookAtShelves(WheelSkips x, List<Long> seen) {
        for (int s = 0; s < 6; s++) {
            for (int k : new int[] {0, 1, 2, 7}) seen.add((long) x.taken(s, k));
            for (int i = 0; i < 6; i++) seen.add(x.element(s, i));
            seen.add((long) x.put(s, 0, 0x700008081L));
            seen.add(x.element(s, 0));
            seen.add((long) x.shift(s, 59, s, 59, 1));
        }
    }

    private static void lookAtBodies(WheelSkips x, List<Long> seen) {
        int last = x.count(5) - 1;
        for (int b : new int[] {0, 1, 2, last}) {
            seen.add((long) x.act(b, 3, 6));
            seen.add((long) x.count(6));
        }
    }

    private static void lookAtChanges(WheelSkips x, List<Long> seen) {
        long answer = 0;
        for (int i = 0; i <= 41 && answer >= 0; i++) {
            answer = x.undo();
            seen.add(answer);
            seen.add((long) x.of(0, 3));
            seen.add((long) x.of(0, 105));
            seen.add((long) x.of(1, 100));
        }
        answer = 0;
        for (int i = 0; i <= 41 && answer >= 0; i++) {
            answer = x.redo();
            seen.add(answer);
            seen.add((long) x.of(1, 3));
        }
    }

    private static void lookAtTape(WheelSkips x, List<Long> seen) {
        int wheel = x.wheel();
        seen.add((long) wheel);
        for (int p = 0; p < 6; p++) seen.add((long) x.of(wheel, 100 + p));
        seen.add((long) x.law());
        for (int n = 1; n < 6; n++) seen.add((long) x.shows(0, n));
    }

    // ------------------------------------------------------------------ objects

    private static int feed(WheelSkips x, String text) {
        int answer = 0;
        for (int i = 0; i < text.length(); i++) answer = x.feed(text.charAt(i));
        return answer;
    }

    private static int wheel(WheelSkips x, String text) {
        feed(x, text);
        return x.wheel();
    }

    private static int law(WheelSkips x, String text) {
        feed(x, text);
        return x.law();
    }

    private static WheelSkips with(String... wheels) {
        WheelSkips x = new WheelSkips();
        for (String text : wheels) wheel(x, text);
        return x;
    }

    private static WheelSkips frosty(String law, String... wheels) {
        WheelSkips x = with(wheels);
        law(x, law);
        return x;
    }

    private static String times(int n, String text) {
        return text.repeat(n);
    }

    private static WheelSkips on(WheelSkips x, int n) {
        x.on(n);
        return x;
    }

    /** Bodies and shelves of all sorts; without wheels. */
    private static WheelSkips furnished() {
        WheelSkips x = new WheelSkips();
        x.body(5);
        x.body(3);
        x.body(7);
        x.keep(1, 1);
        x.row(2, 1, 5);
        x.row(3, 3, 3);
        x.row(4, 4, 2);
        x.row(5, 1, 4);
        int[] shorts = {12, 4, 15, 2, 13};
        for (int i = 0; i < 5; i++) x.put(2, i, shorts[i]);
        x.put(3, 2, -7);
        x.put(4, 1, 1);
        x.put(5, 3, 9);
        return x;
    }

    /** Something of all that can be had, but for an image and a latest act. */
    private static WheelSkips plain(String tape) {
        WheelSkips x = furnished();
        wheel(x, "wsfb3w");
        wheel(x, "w2s");
        law(x, "t%5?z<6;p=2");
        x.set(0, 5);
        x.set(1, 77);
        x.broke(0, 30);
        x.tooth(1, 0, 'f');
        x.tooth(0, 5, 's');
        x.broke(1, 9);
        x.undo();
        x.on(11);
        x.record(3, 1);
        x.record(12, 4);
        x.record(15, 2);
        feed(x, tape);
        return x;
    }

    private static WheelSkips rich(String tape) {
        WheelSkips x = plain(tape);
        x.act(0, 3, 4);
        x.image();
        x.on(2);
        return x;
    }

    private static WheelSkips rich() {
        return RICH.make();
    }

    private static WheelSkips wheelless() {
        WheelSkips x = furnished();
        x.act(0, 3, 4);
        x.record(3, 1);
        x.on(2);
        x.image();
        x.on(2);
        feed(x, "w3s");
        return x;
    }

    /** Four wheels, so that its tape can become a law alone. */
    private static WheelSkips withFullTape() {
        WheelSkips x = with("fw", "ww", "ww", "ww");
        feed(x, times(59, "0+") + "01");
        return x;
    }

    /** Its tape could be a wheel, and a law. */
    private static WheelSkips withFourWheels() {
        WheelSkips x = with("wfs", "ws", "2w", "w3w");
        x.on(5);
        feed(x, "12");
        return x;
    }

    private static WheelSkips withRecords(int n) {
        WheelSkips x = with("wwww", "ws");
        for (int i = 0; i < n; i++) x.record(i + 1, (i + 1) % 4);
        return x;
    }

    private static WheelSkips withBodies(int n) {
        WheelSkips x = new WheelSkips();
        for (int i = 0; i < n; i++) x.body(i % 8);
        return x;
    }

    private static WheelSkips atNight(int night) {
        WheelSkips x = with("ww");
        for (int left = night; left > 0; left -= 2000) x.on(Math.min(left, 2000));
        return x;
    }

    private static int wheelOf(String text) {
        return wheel(new WheelSkips(), text);
    }

    private static int lawOf(String text) {
        return law(new WheelSkips(), text);
    }

    /** Whether the frost's tooth stays in the first night. */
    private static void cold(String... laws) {
        for (String text : laws) {
            WheelSkips x = with("fw");
            due("law " + text, law(x, text), 1);
            due("cold by " + text + ": shows(0, 1)", x.shows(0, 1), 0);
        }
    }

    private static void mild(String... laws) {
        for (String text : laws) {
            WheelSkips x = with("fw");
            due("law " + text, law(x, text), 1);
            due("not cold by " + text + ": shows(0, 1)", x.shows(0, 1), 1);
        }
    }

    private static void lawsStand(String... laws) {
        for (String text : laws) due("law " + text, lawOf(text), 1);
    }

    private static void fault(int at, String... laws) {
        for (String text : laws) due("law " + text, lawOf(text), -100 - at);
    }

    /** Places of a wheel in the next nights, a digit each. */
    private static void path(WheelSkips x, int wheel, String places) {
        for (int i = 0; i < places.length(); i++) {
            due("shows(" + wheel + ", " + (i + 1) + ")", x.shows(wheel, i + 1), places.charAt(i) - '0');
        }
    }

    // ------------------------------------------------------------------ 1 a new object

    static void p01NoWheelsAndNight0() {
        says("`WheelSkips()`: No wheels; night 0.");
        WheelSkips x = new WheelSkips();
        for (int what = 0; what <= 6; what++) due("count(" + what + ")", x.count(what), 0);
        due("of(0, 0)", x.of(0, 0), BAD);
        due("broke(0, 0)", x.broke(0, 0), BAD);
        due("day()", x.day(), STATE);
        due("on(1)", x.on(1), 1);
    }

    static void p01WeekIs7AndSeed0AtFirst() {
        says("WEEK (1 .. 9; 7 at first). SEED (any int; 0 at first).");
        WheelSkips x = new WheelSkips();
        due("set(0, 1)", x.set(0, 1), 7);
        due("set(1, 1)", x.set(1, 1), 0);
    }

    static void p01ShelvesHoldNothingAtFirst() {
        says("SHELVES 0 .. 5 each hold nothing (at first)");
        WheelSkips x = new WheelSkips();
        for (int s = 0; s <= 5; s++) {
            due("taken(" + s + ", 0)", x.taken(s, 0), EMPTY);
            due("put(" + s + ", 0, 1)", x.put(s, 0, 1), EMPTY);
        }
        due("taken(6, 0)", x.taken(6, 0), BAD);
    }

    // ------------------------------------------------------------------ 2 feed

    static void p02BytesFrom0To255() {
        says("A byte (0 .. 255) comes to THE TAPE: how many it has. BAD, FULL (120).");
        WheelSkips x = new WheelSkips();
        due("feed(0)", x.feed(0), 1);
        due("feed(255)", x.feed(255), 2);
        refusedFor(RICH, "feed", BAD, WheelSkips::feed, -1, 256, MIN, MAX);
    }

    static void p02TapeOf120Bytes() {
        says("THE TAPE (at most 120 bytes)");
        WheelSkips x = new WheelSkips();
        due("119 bytes", feed(x, times(119, "w")), 119);
        due("the 120th", x.feed('w'), 120);
        refusedFor(FULL_TAPE, "the 121st", FULL, WheelSkips::feed, 'w', 0, 255);
        WheelSkips y = withFullTape();
        due("all of it counts", y.law(), 1);
        due("its last byte, too", y.shows(0, 1), 0);
        due("once it is empty", y.feed('w'), 1);
    }

    static void p02BadIsNamedAheadOfFull() {
        says("Answers, of several the one named first: BAD (-1)");
        refusedFor(FULL_TAPE, "feed", BAD, WheelSkips::feed, -1, 256);
    }

    // ------------------------------------------------------------------ 3 wheel

    static void p03TeethFrom2To40() {
        says("2 to 40 TEETH");
        due("none", wheelOf(""), -100);
        due("one", wheelOf("w"), -101);
        due("two", wheelOf("ww"), 0);
        WheelSkips x = new WheelSkips();
        due("40", wheel(x, times(39, "w") + "s"), 0);
        due("of(0, 0)", x.of(0, 0), 40);
        due("of(0, 139)", x.of(0, 139), 's');
        due("41", wheelOf(times(41, "w")), -140);
        due("120", wheelOf(times(120, "w")), -140);
    }

    static void p03LettersThatAreTeeth() {
        says("a letter each: w whole, s skips, f frost, b broken, 1 .. 9 sticks. No blanks.");
        for (int b = 0; b <= 255; b++) {
            boolean tooth = "wsfb123456789".indexOf(b) >= 0;
            WheelSkips x = new WheelSkips();
            due("the wheel w, byte " + b, wheel(x, "w" + (char) b), tooth ? 0 : -101);
            due("its tooth", x.of(0, 101), tooth ? b : BAD);
        }
    }

    static void p03FaultIsTheFirstByteThatIsNone() {
        says("FAULT: the place (from 0) of the first byte that is none, or is the 41st; the length, if there are fewer than 2.");
        due("at 0", wheelOf("xw"), -100);
        due("at 0, alone", wheelOf("x"), -100);
        due("at 1", wheelOf("wx"), -101);
        due("at 1 and 2", wheelOf("wxx"), -101);
        due("the last", wheelOf("wwx"), -102);
        due("the 40th", wheelOf(times(39, "w") + "x"), -139);
        due("the 41st, and none", wheelOf(times(40, "w") + "x"), -140);
        due("ahead of the 41st", wheelOf("wx" + times(60, "w")), -101);
        due("behind the 41st", wheelOf(times(41, "w") + "x"), -140);
    }

    static void p03TheTapeIsEmptyThen() {
        says("THE TAPE becomes a WHEEL: its number; -100 less its FAULT; THE TAPE is empty then.");
        WheelSkips x = new WheelSkips();
        due("a wheel", wheel(x, "ws2"), 0);
        due("count(3)", x.count(3), 0);
        due("a fault", wheel(x, "ws?2"), -102);
        due("count(3)", x.count(3), 0);
        due("feed", x.feed('w'), 1);
        due("one tooth", x.wheel(), -101);
        for (String text : new String[] {"", "w", "w?s", times(41, "w")}) {
            WheelSkips y = rich(text);
            due("a fault", y.wheel() <= -100 ? 1 : 0, 1);
            alike("behind wheel() of " + text, y, rich(""));
        }
    }

    static void p03WheelsFrom0To3() {
        says("FULL: 4 (it stays).");
        says("WHEELS 0 .. 3, as they come by THE TAPE");
        WheelSkips x = new WheelSkips();
        for (int w = 0; w <= 3; w++) due("wheel()", wheel(x, "ww"), w);
        due("of(3, 0)", x.of(3, 0), 2);
        due("of(4, 0)", x.of(4, 0), BAD);
        refused(FOUR_WHEELS, "a fifth wheel()", FULL, y -> y.wheel());
        WheelSkips z = withFourWheels();
        z.wheel();
        due("the tape stays", z.count(3), 2);
        due("as it is", z.law(), 1);
    }

    static void p03PlaceWaitsAndBrokeAre0AtFirst() {
        says("Each WHEEL is at a PLACE (0 at first: the tooth of that number), WAITS (0 at first), BROKE at a NIGHT (0 .. 9999; 0 at first).");
        WheelSkips x = new WheelSkips();
        for (int w = 0; w <= 3; w++) {
            wheel(x, "3w");
            for (int what = 1; what <= 3; what++) due("of(" + w + ", " + what + ")", x.of(w, what), 0);
            x.on(2);
            x.broke(w, 5);
        }
    }

    // ------------------------------------------------------------------ 4 law: what has no fault

    static void p04LinesOneOrMore() {
        says("LINES, one or more, parted by ;");
        lawsStand("1", "1;1", "1;1;1", times(59, "1;") + "12");
        fault(0, "", ";", ";1");
        fault(2, "1;", "1;;1");
        fault(4, "1;1;");
    }

    static void p04ALineHasOneQuestionAtMost() {
        says("LINE: E, or E ? E");
        lawsStand("1?1", "1?1;1?1");
        fault(0, "?1");
        fault(2, "1?", "1??1", "1?;1");
        fault(3, "1?1?1");
        fault(2, "(1?1)");
    }

    static void p04EachOrAndAndHasAnotherBehindIt() {
        says("E = A { | A }. A = B { & B }.");
        lawsStand("1", "1|1", "1|1|1", "1&1", "1&1&1", "1|1&1|1", times(59, "1|") + "1", times(59, "1&") + "1");
        fault(0, "|1", "&1");
        fault(2, "1|", "1&", "1||1", "1&&1", "1|&1", "1&|1");
    }

    static void p04OneComparisonAtMost() {
        says("B = S, or S < S, S = S, S > S.");
        for (char a : "<=>".toCharArray()) {
            lawsStand("1" + a + "2", "(1" + a + "2)" + a + "3", "1" + a + "2|1" + a + "2");
            fault(2, "1" + a);
            fault(0, a + "1");
            for (char b : "<=>".toCharArray()) {
                fault(3, "1" + a + "2" + b + "3");
                fault(2, "1" + a + b + "2");
            }
        }
    }

    static void p04EachSignHasAnotherBehindIt() {
        says("S = P { + P, - P }. P = O { * O, / O, % O }.");
        for (char sign : "+-*/%".toCharArray()) {
            lawsStand("1" + sign + "2", "1" + sign + "2" + sign + "3", "1" + sign + "-2", "1" + sign + "!2",
                times(59, "1" + sign) + "1");
            fault(2, "1" + sign, "1" + sign + "+1", "1" + sign + "*1", "1" + sign + ")");
        }
        fault(0, "+1", "*1", "/1", "%1");
    }

    static void p04NumbersOf1To4Digits() {
        says("O = a number (1 to 4 digits)");
        lawsStand("0", "9", "99", "999", "9999", "0000");
        fault(4, "00000", "10000", "99999");
        fault(6, "1+12345");
        fault(5, "(12345)");
        cold("9999-9998=1", "0009=9", "1000-999=1");
        mild("0000");
    }

    static void p04TheFirstByteOfAText() {
        says("a NAME, ! O, - O, ( E ). No blanks. NAMES:");
        for (int b = 0; b <= 255; b++) {
            boolean whole = "0123456789tpkz".indexOf(b) >= 0;
            boolean opens = "(!-".indexOf(b) >= 0;
            due("the law of byte " + b, lawOf("" + (char) b), whole ? 1 : opens ? -101 : -100);
        }
    }

    static void p04TheByteBehindAName() {
        says("FAULT likewise; the length, if it ends too early.");
        for (int b = 0; b <= 255; b++) {
            boolean goesOn = "|&<=>+-*/%?;".indexOf(b) >= 0;
            due("the law t, byte " + b, lawOf("t" + (char) b), goesOn ? -102 : -101);
        }
    }

    static void p04NoBlanks() {
        says("( E ). No blanks.");
        fault(0, " 1", "\n1", "\t1");
        fault(1, "1 ", "1 +1", "1 ;1", "( 1)", "! 1", "- 1");
        fault(2, "1+ 1", "1; 1", "1? 1", "(1 )");
    }

    static void p04SixAreOpenAtMost() {
        says("At most 6 of ( ! - ahead of an O are open at once.");
        lawsStand("((((((1))))))", "!!!!!!1", "------1", "(!-(!-1))", "-----(1)", "!!!!!(1)", "((((((1))))))-1");
        fault(6, "(((((((1)))))))", "!!!!!!!1", "-------1", "(!-(!-(1)))", "(!-(!-!1))", "(!-(!--1))", "------(1)", "((((((!1))))))");
        fault(8, "1-((((((-1))))))");
    }

    static void p04WhatIsClosedIsOpenNoMore() {
        says("are open at once.");
        lawsStand("((((((1))))))+((((((1))))))", "((((((1))))))?((((((1))))));((((((1))))))", "!!!!!!1-!!!!!!1", "1-------1",
            times(7, "(1)+") + "1", times(7, "!1+") + "1", times(7, "-1*") + "1", "((((((1)+(1))))))");
        fault(8, "1--------1");
        fault(12, "((((((1)))))");
        fault(13, "((((((1)))))))");
        fault(20, "((((((1))))))+(((((((1)))))))", "((((((1))))))?(((((((1)))))))", "((((((1))))));(((((((1)))))))");
        fault(14, "!!!!!!1|!!!!!!!1");
    }

    static void p04TheLengthIfItEndsTooEarly() {
        says("the length, if it ends too early");
        fault(0, "");
        fault(1, "(", "!", "-");
        fault(2, "(1", "!(", "((", "1?", "1;", "1<", "1|");
        fault(3, "(1+", "1+(", "1?(");
        fault(120, times(60, "1+"));
        fault(2, "(1;", "(1?");
    }

    static void p04TheTapeIsEmptyThen() {
        says("THE TAPE becomes THE LAW: 1; -100 less its FAULT; THE TAPE is empty then.");
        WheelSkips x = new WheelSkips();
        due("a law", law(x, "1"), 1);
        due("count(3)", x.count(3), 0);
        due("a fault", law(x, "1?"), -102);
        due("count(3)", x.count(3), 0);
        due("feed", x.feed('1'), 1);
        due("a law", x.law(), 1);
        for (String text : new String[] {"", "1?", "x", "1)", "12345", "(((((((1"}) {
            WheelSkips y = rich(text);
            due("a fault", y.law() <= -100 ? 1 : 0, 1);
            alike("behind law() of " + text, y, rich(""));
        }
    }

    static void p04ATextOf120Bytes() {
        says("becomes THE LAW: 1");
        cold("1", times(59, "0+") + "01", times(29, "0?1;") + "0001");
        mild("0", times(59, "0+") + "00", times(29, "0?1;") + "0000");
    }

    // ------------------------------------------------------------------ 4 law: what it gives

    static void p04IntsThatWrap() {
        says("Ints that wrap;");
        cold("8192*8192*16>0", "8192*8192*32<0", "8192*8192*32-1>0", "8192*8192*64=0", "-(8192*8192*32)=8192*8192*32");
        cold("8192*8192*16+(8192*8192*16-1)>0", "8192*8192*16+8192*8192*16<0");
        cold("8192*8192*32=8192*8192*32*3", "9999*9999*9999=9999*9999*9999+8192*8192*64");
    }

    static void p04DivisionTowardZero() {
        says("/ and % toward 0");
        cold("7/2=3", "-7/2=-3", "7/-2=-3", "-7/-2=3", "7%2=1", "-7%2=-1", "7%-2=1", "-7%-2=-1", "6/2=3", "6%2=0", "1/2=0", "-1/2=0");
        cold("8192*8192*32/-1=8192*8192*32", "8192*8192*32%-1=0");
    }

    static void p04By0TheyGive0() {
        says("by 0 they give 0");
        cold("7/0=0", "-7/0=0", "0/0=0", "7%0=0", "-7%0=0", "0%0=0", "7/1=7", "7/-1=-7", "7%1=0", "1+7/(3-3)=1", "7/p=0", "7%p=0");
    }

    static void p04SignsGive1Or0() {
        says("| & < = > ! give 1, 0; all is worked out.");
        cold("(5|0)=1", "(0|5)=1", "(5|6)=1", "(0|0)=0", "(-1|0)=1", "(5&6)=1", "(5&0)=0", "(0&5)=0", "(0&0)=0", "(-1&-1)=1");
        cold("(1<2)=1", "(2<2)=0", "(3<2)=0", "(2=2)=1", "(2=3)=0", "(3>2)=1", "(2>2)=0", "(1>2)=0");
        cold("!0=1", "!1=0", "!5=0", "!-1=0", "(5|0)+(5&6)+(1<2)+(2=2)+(3>2)+!0=6");
        cold("-1<0", "8192*8192*32<8192*8192*16", "8192*8192*32-1>8192*8192*32");
    }

    static void p04TheFirstLineThatCounts() {
        says("The first LINE without a first E, or whose first E is not 0, counts; none: 0.");
        cold("1", "1;0", "1?1;0", "2?1;0", "-1?1;0", "0?0;1", "0?0;0?0;1", "0?0;1?1;0", "1?5");
        mild("0", "0;1", "1?0;1", "0?1", "0?1;0?1", "0?1;0?1;0?1", "0?1;0;1", "0?1;1?0;1");
    }

    static void p04ColdIfItGivesNot0() {
        says("It is COLD there, if it gives not 0 (without a text never).");
        cold("1", "2", "-1", "9999", "8192*8192*32");
        mild("0", "-0", "1-1", "8192*8192*64");
        due("without a text", with("fw").shows(0, 1), 1);
        WheelSkips x = with("fw");
        law(x, "1?");
        due("with a text that had a fault", x.shows(0, 1), 1);
        due("a law", law(x, "0?1;0?1;1"), 1);
        due("cold", x.shows(0, 1), 0);
        due("a shorter one", law(x, "0?1"), 1);
        due("not cold", x.shows(0, 1), 1);
    }

    static void p04NamesOfTheNightGoneTo() {
        says("NAMES: t THE NIGHT, p the PLACE, k the WHEEL, z a draw");
        cold("t=1", "p=0", "k=0");
        mild("t=0", "t=2", "p", "k");
        WheelSkips x = frosty("k=3", "ff", "ff", "ff", "ff");
        path(x, 0, "1010101010");
        due("shows(2, 8)", x.shows(2, 8), 0);
        due("shows(3, 8): wheel 3 is held", x.shows(3, 8), 0);
        law(x, "k>3");
        due("shows(3, 8)", x.shows(3, 8), 1);
        law(x, "p=1");
        path(x, 0, "1111");
    }

    static void p04TheDrawIs0To9() {
        says("z a draw: (t * 1103515245 + SEED, an int, >>> 8) % 10");
        for (int seed : new int[] {0, 1, -1, 255, 256, MIN, MAX}) {
            for (int night = 1; night <= 3; night++) {
                WheelSkips x = with("fw");
                x.set(1, seed);
                if (night > 1) x.on(night - 1);
                x.lay(0, 0);
                int z = ((night * 1103515245 + seed) >>> 8) % 10;
                for (int v = 0; v <= 9; v++) {
                    law(x, "z=" + v);
                    due("z=" + v + " in night " + night + ", SEED " + seed, x.shows(0, 1), v == z ? 0 : 1);
                }
                law(x, "z<0|z>9");
                due("z below 0 or above 9", x.shows(0, 1), 1);
            }
        }
    }

    // ------------------------------------------------------------------ 5 set

    static void p05WeekFrom1To9() {
        says("WEEK (what 0), SEED (1) becomes v: what it was. VOID: BAD.");
        WheelSkips x = new WheelSkips();
        due("set(0, 1)", x.set(0, 1), 7);
        due("set(0, 9)", x.set(0, 9), 1);
        due("set(0, 2)", x.set(0, 2), 9);
        refusedFor(RICH, "set of WEEK", VOID, (y, v) -> y.set(0, v), 0, 10, -1, MIN, MAX);
    }

    static void p05SeedIsAnyInt() {
        says("SEED (any int; 0 at first)");
        WheelSkips x = new WheelSkips();
        int was = 0;
        for (int v : new int[] {MIN, MAX, -1, 0, 1, VOID, 10}) {
            due("set(1, " + v + ")", x.set(1, v), was);
            was = v;
        }
    }

    static void p05WhatIs0Or1() {
        says("WEEK (what 0), SEED (1)");
        refusedFor(RICH, "set of what", VOID, (y, what) -> y.set(what, 3), -1, 2, MIN, MAX);
    }

    // ------------------------------------------------------------------ 6 broke

    static void p06BrokeFrom0To9999() {
        says("BROKE of a WHEEL becomes v: what it was. BAD.");
        says("BROKE at a NIGHT (0 .. 9999; 0 at first)");
        WheelSkips x = with("bb");
        due("broke(0, 9999)", x.broke(0, 9999), 0);
        due("broke(0, 0)", x.broke(0, 0), 9999);
        due("broke(0, 1)", x.broke(0, 1), 0);
        refusedFor(RICH, "broke", BAD, (y, v) -> y.broke(0, v), -1, 10000, MIN, MAX);
    }

    static void p06WheelsThatThereAre() {
        says("BAD (-1): no such number, or it is not as said");
        WheelSkips x = with("bb", "bb");
        due("broke(1, 5)", x.broke(1, 5), 0);
        refusedFor(RICH, "broke of wheel", BAD, (y, w) -> y.broke(w, 5), -1, 2, 4, MIN, MAX);
        refusedFor(WHEELLESS, "broke of wheel", BAD, (y, w) -> y.broke(w, 5), 0);
        refusedFor(FOUR_WHEELS, "broke of wheel", BAD, (y, w) -> y.broke(w, 5), 4);
    }

    static void p06TheNightItBrokeIn() {
        says("b: 1 on, if THE NIGHT is below BROKE, else 2 on");
        for (int v = 1; v <= 3; v++) {
            WheelSkips x = with("bbbbbbbbb");
            x.broke(0, v);
            due("the night below BROKE " + v, x.shows(0, v - 1), v - 1);
            due("the night BROKE " + v, x.shows(0, v), v + 1);
            due("the night above BROKE " + v, x.shows(0, v + 1), v + 3);
        }
        WheelSkips x = with("bbbb");
        due("BROKE 0", x.shows(0, 1), 2);
        x.broke(0, 9999);
        due("night 9998", x.shows(0, 9998), 2);
        due("night 9999", x.shows(0, 9999), 0);
        due("night 10000", x.shows(0, 10000), 2);
    }

    static void p06AsItWasIsNoChange() {
        says("CHANGES (teeth, BROKE) can be UNDONE");
        WheelSkips x = with("bb");
        due("broke(0, 0)", x.broke(0, 0), 0);
        due("count(4)", x.count(4), 0);
        due("broke(0, 1)", x.broke(0, 1), 0);
        due("count(4)", x.count(4), 1);
        due("broke(0, 1)", x.broke(0, 1), 1);
        due("count(4)", x.count(4), 1);
        changesNothing(RICH, "broke(0, 30) again", y -> y.broke(0, 30));
    }

    // ------------------------------------------------------------------ 7 tooth

    static void p07PlacesThatThereAre() {
        says("The tooth at a PLACE of a WHEEL becomes a letter (its byte): which it was. BAD.");
        WheelSkips x = with("wsf", times(40, "1"));
        due("the first", x.tooth(0, 0, '9'), 'w');
        due("the last", x.tooth(0, 2, 'b'), 'f');
        due("the 40th", x.tooth(1, 39, 's'), '1');
        due("of(1, 139)", x.of(1, 139), 's');
        refusedFor(RICH, "tooth at", BAD, (y, p) -> y.tooth(0, p, '7'), -1, 6, 40, MIN, MAX);
        refusedFor(RICH, "tooth of wheel 1 at", BAD, (y, p) -> y.tooth(1, p, '7'), 3, 5);
    }

    static void p07WheelsThatThereAre() {
        says("BAD (-1): no such number, or it is not as said");
        refusedFor(RICH, "tooth of wheel", BAD, (y, w) -> y.tooth(w, 0, '7'), -1, 2, 4, MIN, MAX);
        refusedFor(WHEELLESS, "tooth of wheel", BAD, (y, w) -> y.tooth(w, 0, '7'), 0);
    }

    static void p07LettersThatAreTeeth() {
        says("a letter each: w whole, s skips, f frost, b broken, 1 .. 9 sticks.");
        WheelSkips x = with("ww");
        int was = 'w';
        for (int b = -1; b <= 256; b++) {
            boolean tooth = b >= 0 && "wsfb123456789".indexOf(b) >= 0;
            if (tooth) due("tooth " + b, x.tooth(0, 1, b), was);
            else due("tooth " + b, x.tooth(0, 1, b), BAD);
            if (tooth) was = b;
        }
        due("of(0, 101)", x.of(0, 101), 'w');
        refusedFor(RICH, "tooth", BAD, (y, b) -> y.tooth(0, 5, b), '0', ':', ' ', 'W', 0, 256 + 's', -'s', MIN, MAX);
    }

    static void p07AsItWasIsNoChange() {
        says("CHANGES (teeth, BROKE) can be UNDONE");
        changesNothing(RICH, "tooth(0, 5, s) again", y -> y.tooth(0, 5, 's'));
        WheelSkips x = with("ww");
        due("tooth(0, 0, w)", x.tooth(0, 0, 'w'), 'w');
        due("undo()", x.undo(), STATE);
    }

    // ------------------------------------------------------------------ 8 of

    static void p08WhatIs0To3Or100AndPlace() {
        says("Of a WHEEL: 0 how many TEETH, 1 PLACE, 2 WAITS, 3 BROKE; 100 and PLACE: the tooth's letter. BAD.");
        WheelSkips x = with("w2s");
        x.broke(0, 8);
        x.on(2);
        int[] want = {3, 1, 1, 8};
        for (int what = 0; what <= 3; what++) due("of(0, " + what + ")", x.of(0, what), want[what]);
        due("of(0, 100)", x.of(0, 100), 'w');
        due("of(0, 102)", x.of(0, 102), 's');
        refusedFor(RICH, "of", BAD, (y, what) -> y.of(0, what), -1, 4, 99, 106, 140, MIN, MAX, MIN + 100);
        refusedFor(RICH, "of wheel 1", BAD, (y, what) -> y.of(1, what), 103);
    }

    static void p08WheelsThatThereAre() {
        says("BAD (-1): no such number, or it is not as said");
        WheelSkips x = with("ww", "www", "ww", "wwww");
        due("of(3, 0)", x.of(3, 0), 4);
        due("of(3, 103)", x.of(3, 103), 'w');
        refusedFor(RICH, "of wheel", BAD, (y, w) -> y.of(w, 0), -1, 2, MIN, MAX);
        refusedFor(RICH, "of wheel, 100,", BAD, (y, w) -> y.of(w, 100), -1, 2, MIN, MAX);
        refusedFor(FOUR_WHEELS, "of wheel", BAD, (y, w) -> y.of(w, 0), 4);
        refusedFor(WHEELLESS, "of wheel", BAD, (y, w) -> y.of(w, 0), 0);
    }

    // ------------------------------------------------------------------ 9 on: how far

    static void p09NightsFrom1To2000() {
        says("n NIGHTS (1 .. 2000) go on: THE NIGHT. BAD; FULL: above 1000000.");
        WheelSkips x = with("www");
        due("on(1)", x.on(1), 1);
        due("on(2000)", x.on(2000), 2001);
        due("of(0, 1)", x.of(0, 1), 0);
        refusedFor(RICH, "on", BAD, WheelSkips::on, 0, 2001, -1, MIN, MAX);
        refusedFor(WHEELLESS, "on", BAD, WheelSkips::on, 0, 2001);
    }

    static void p09NightsUpTo1000000() {
        says("NIGHTS above 1000000 are not gone to");
        due("from 998000 by 2000", atNight(998000).on(2000), 1000000);
        due("from 998001 by 1999", atNight(998001).on(1999), 1000000);
        due("from 999999 by 1", atNight(999999).on(1), 1000000);
        refused(() -> atNight(998001), "from 998001 by 2000", FULL, x -> x.on(2000));
        refused(() -> atNight(999999), "from 999999 by 2", FULL, x -> x.on(2));
        refusedFor(() -> atNight(1000000), "from 1000000", FULL, WheelSkips::on, 1, 2000);
    }

    static void p09BadIsNamedAheadOfFull() {
        says("Answers, of several the one named first: BAD (-1)");
        refusedFor(() -> atNight(1000000), "from 1000000", BAD, WheelSkips::on, 0, 2001, -1);
    }

    static void p09WithoutWheelsTheNightAloneGoesOn() {
        says("A NIGHT: t is 1 more, WHEEL 0 is PUSHED. (Without WHEELS t alone goes on.)");
        WheelSkips x = new WheelSkips();
        due("on(1)", x.on(1), 1);
        due("on(2000)", x.on(2000), 2001);
        due("a wheel that comes then", wheel(x, "ww"), 0);
        due("of(0, 1)", x.of(0, 1), 0);
        due("on(1)", x.on(1), 2002);
        due("of(0, 1)", x.of(0, 1), 1);
    }

    static void p09The512thCallIsAnswered() {
        says("An object is used for at most 512 calls after it has been made");
        WheelSkips x = new WheelSkips();
        for (int i = 1; i <= 512; i++) due("call " + i + ": on(1)", x.on(1), i);
    }

    // ------------------------------------------------------------------ 9 on: a push

    /** The place and the next wheel's place, after one night from a place on. */
    private static void pushed(String teeth, int from, int place, int next) {
        WheelSkips x = with(teeth, "www");
        x.lay(0, from);
        x.on(1);
        due(teeth + " from " + from + ": PLACE", x.of(0, 1), place);
        due(teeth + " from " + from + ": the next wheel's", x.of(1, 1), next);
    }

    static void p09AWholeToothPastTheLast() {
        says("On past the last tooth it comes round (PLACE by how many TEETH, what is left), and the next WHEEL, if there is one, is PUSHED, too.");
        pushed("www", 0, 1, 0);
        pushed("www", 1, 2, 0);
        pushed("www", 2, 0, 1);
        pushed("ww", 1, 0, 1);
        pushed("fff", 1, 2, 0);
        pushed("fff", 2, 0, 1);
        pushed(times(40, "w"), 38, 39, 0);
        pushed(times(40, "w"), 39, 0, 1);
    }

    static void p09ASkipPastTheLast() {
        says("s: 2 on");
        pushed("ssss", 1, 3, 0);
        pushed("ssss", 2, 0, 1);
        pushed("ssss", 3, 1, 1);
        pushed("ss", 0, 0, 1);
        pushed("ss", 1, 1, 1);
        pushed("bbbb", 1, 3, 0);
        pushed("bbbb", 2, 0, 1);
        pushed("bbbb", 3, 1, 1);
    }

    static void p09ATurnAsFarAsTheLastWheel() {
        says("and the next WHEEL, if there is one, is PUSHED, too");
        WheelSkips x = with("ww", "ww", "ww", "ww");
        for (int w = 0; w < 4; w++) x.lay(w, 1);
        due("on(1)", x.on(1), 1);
        for (int w = 0; w < 4; w++) due("all come round", x.of(w, 1), 0);
        x.on(7);
        for (int w = 0; w < 3; w++) due("at 1 again", x.of(w, 1), 1);
        due("not yet", x.of(3, 1), 0);
        x.on(1);
        due("pushed", x.of(3, 1), 1);
    }

    static void p09ASticksWaits() {
        says("a digit d: if WAITS are below d, WAITS are 1 more and it stays; else WAITS are 0, 1 on.");
        for (int d = 1; d <= 9; d++) {
            WheelSkips x = with(d + "w");
            for (int i = 1; i <= d; i++) {
                x.on(1);
                due(d + " stays: PLACE", x.of(0, 1), 0);
                due(d + " stays: WAITS", x.of(0, 2), i);
            }
            x.on(1);
            due(d + " goes: PLACE", x.of(0, 1), 1);
            due(d + " goes: WAITS", x.of(0, 2), 0);
        }
        pushed("w2", 1, 1, 0);
    }

    static void p09WaitsThatAreNotBelow() {
        says("if WAITS are below d");
        for (int d = 1; d <= 5; d++) {
            WheelSkips x = with("9w");
            x.on(3);
            x.tooth(0, 0, '0' + d);
            x.on(1);
            due("WAITS 3 and " + d + ": PLACE", x.of(0, 1), d > 3 ? 0 : 1);
            due("WAITS 3 and " + d + ": WAITS", x.of(0, 2), d > 3 ? 4 : 0);
        }
    }

    static void p09AStickAtTheLastComesRound() {
        says("else WAITS are 0, 1 on");
        WheelSkips x = with("w1", "w1");
        path(x, 0, "110110110110");
        path(x, 1, "001111110001");
    }

    // ------------------------------------------------------------------ 10 lay

    static void p10PlacesThatThereAre() {
        says("A WHEEL is set to a PLACE, WAITS 0: its PLACE as it was. BAD.");
        WheelSkips x = with("w9w", times(40, "w"));
        due("lay(0, 2)", x.lay(0, 2), 0);
        due("lay(0, 0)", x.lay(0, 0), 2);
        due("lay(1, 39)", x.lay(1, 39), 0);
        due("of(1, 1)", x.of(1, 1), 39);
        refusedFor(RICH, "lay", BAD, (y, p) -> y.lay(0, p), -1, 6, 40, MIN, MAX);
        refusedFor(RICH, "lay of wheel 1", BAD, (y, p) -> y.lay(1, p), 3);
    }

    static void p10WheelsThatThereAre() {
        says("BAD (-1): no such number, or it is not as said");
        refusedFor(RICH, "lay of wheel", BAD, (y, w) -> y.lay(w, 0), -1, 2, 4, MIN, MAX);
        refusedFor(WHEELLESS, "lay of wheel", BAD, (y, w) -> y.lay(w, 0), 0);
    }

    static void p10WaitsAre0Then() {
        says("A WHEEL is set to a PLACE, WAITS 0");
        WheelSkips x = with("9w", "9w");
        x.on(4);
        due("of(0, 2)", x.of(0, 2), 4);
        due("the PLACE that it is at", x.lay(0, 0), 0);
        due("of(0, 2)", x.of(0, 2), 0);
        due("count(1)", x.count(1), 4);
        due("no change to be undone", x.undo(), STATE);
    }

    // ------------------------------------------------------------------ 11 shows

    static void p11NightsFrom0To20000() {
        says("SHOWS: n 0 .. 20000. BAD.");
        WheelSkips x = frosty("t<2000*10", "fww");
        due("shows(0, 0)", x.shows(0, 0), 0);
        due("shows(0, 19999)", x.shows(0, 19999), 0);
        due("shows(0, 20000)", x.shows(0, 20000), 1);
        refusedFor(RICH, "shows", BAD, (y, n) -> y.shows(0, n), -1, 20001, MIN, MAX);
    }

    static void p11WheelsThatThereAre() {
        says("SHOWS: the PLACE of a WHEEL n NIGHTS on.");
        WheelSkips x = with("ww", "ww", "ww", "ww");
        due("shows(3, 8)", x.shows(3, 8), 1);
        refusedFor(RICH, "shows of wheel", BAD, (y, w) -> y.shows(w, 1), -1, 2, 4, MIN, MAX);
        refusedFor(FOUR_WHEELS, "shows of wheel", BAD, (y, w) -> y.shows(w, 1), 4);
        refusedFor(WHEELLESS, "shows of wheel", BAD, (y, w) -> y.shows(w, 0), 0);
    }

    static void p11AllIsAsBefore() {
        says("In thought from now, all as before behind it: SHOWS:");
        changesNothing(RICH, "shows(1, 300)", x -> x.shows(1, 300));
        changesNothing(RICH, "shows(0, 1)", x -> x.shows(0, 1));
    }

    // ------------------------------------------------------------------ 12 day

    static void p12ThePlaceByWeek() {
        says("DAY: the PLACE of WHEEL 0 by WEEK (what is left).");
        WheelSkips x = with(times(40, "w"));
        int[] places = {0, 6, 7, 13, 14, 39};
        int[] days = {0, 6, 0, 6, 0, 4};
        for (int i = 0; i < places.length; i++) {
            x.lay(0, places[i]);
            due("day() at " + places[i], x.day(), days[i]);
        }
        x.set(0, 9);
        due("39 by 9", x.day(), 3);
        x.lay(0, 8);
        due("8 by 9", x.day(), 8);
        x.lay(0, 9);
        due("9 by 9", x.day(), 0);
        x.set(0, 1);
        due("9 by 1", x.day(), 0);
    }

    static void p12StateWithoutWheels() {
        says("DAY now. STATE: no WHEELS.");
        refused(WHEELLESS, "day()", STATE, x -> x.day());
        due("with one", with("ww").day(), 0);
    }

    // ------------------------------------------------------------------ 13 often

    static void p13NightsFrom1To2000() {
        says("OFTEN (n 1 .. 2000; a DAY 0 .. WEEK less 1). BAD; STATE: no WHEELS.");
        WheelSkips x = frosty("t<2000", "fww");
        due("often(0, 1)", x.often(0, 1), 1);
        due("often(0, 1999)", x.often(0, 1999), 1999);
        due("often(0, 2000)", x.often(0, 2000), 1999);
        due("often(1, 1999)", x.often(1, 1999), 0);
        due("often(1, 2000)", x.often(1, 2000), 1);
        refusedFor(RICH, "often", BAD, (y, n) -> y.often(0, n), 0, 2001, -1, MIN, MAX);
    }

    static void p13DaysBelowWeek() {
        says("a DAY 0 .. WEEK less 1");
        WheelSkips x = with(times(9, "w"));
        for (int week = 1; week <= 9; week++) {
            x.set(0, week);
            due("the first of " + week, x.often(0, 9), (9 + week - 1) / week);
            due("the last of " + week, x.often(week - 1, 9), 9 / week);
            due("WEEK " + week, x.often(week, 9), BAD);
            due("below 0", x.often(-1, 9), BAD);
        }
        refusedFor(RICH, "often of day", BAD, (y, d) -> y.often(d, 9), -1, 5, 6, 7, MIN, MAX);
    }

    static void p13TheFirstIsTheNext() {
        says("OFTEN: in n NIGHTS (the first one is the next) how often a DAY is shown.");
        WheelSkips x = with("wwww");
        due("today", x.often(0, 3), 0);
        due("again", x.often(0, 4), 1);
        due("the next", x.often(1, 1), 1);
        changesNothing(RICH, "often(1, 100)", y -> y.often(1, 100));
    }

    static void p13StateWithoutWheels() {
        says("a DAY 0 .. WEEK less 1). BAD; STATE: no WHEELS.");
        refused(WHEELLESS, "often(6, 1)", STATE, x -> x.often(6, 1));
        refused(WHEELLESS, "often(7, 1)", BAD, x -> x.often(7, 1));
        refused(WHEELLESS, "often(0, 0)", BAD, x -> x.often(0, 0));
        refused(WHEELLESS, "often(0, 2001)", BAD, x -> x.often(0, 2001));
    }

    // ------------------------------------------------------------------ 14 never

    static void p14NightsFrom1To2000() {
        says("NEVER (n 1 .. 2000): how many (what 0), the first (1; NOT). BAD; STATE: no WHEELS.");
        WheelSkips x = frosty("t<2000", "fww");
        due("never(1, 0)", x.never(1, 0), 2);
        due("never(1999, 0)", x.never(1999, 0), 2);
        due("never(2000, 0)", x.never(2000, 0), 1);
        due("never(1999, 1)", x.never(1999, 1), 1);
        due("never(2000, 1)", x.never(2000, 1), 2);
        for (int what = 0; what <= 1; what++) {
            int w = what;
            refusedFor(RICH, "never", BAD, (y, n) -> y.never(n, w), 0, 2001, -1, MIN, MAX);
        }
    }

    static void p14WhatIs0Or1() {
        says("how many (what 0), the first (1; NOT)");
        refusedFor(RICH, "never of what", BAD, (y, what) -> y.never(5, what), -1, 2, MIN, MAX);
    }

    static void p14NowCounts() {
        says("NEVER: PLACES of WHEEL 0 not shown now, nor in n NIGHTS: how many, the first.");
        WheelSkips x = with("wwww");
        due("0 now, 1, 2", x.never(2, 0), 1);
        due("so 3", x.never(2, 1), 3);
        due("all four", x.never(3, 0), 0);
        refused(() -> with("wwww"), "no first", NOT, y -> y.never(3, 1));
        x.lay(0, 1);
        due("1 now, 2, 3", x.never(2, 1), 0);
        changesNothing(RICH, "never(100, 0)", y -> y.never(100, 0));
    }

    static void p14AllTeethCanBeMissing() {
        says("NEVER: PLACES of WHEEL 0");
        WheelSkips x = frosty("1", "f" + times(39, "w"), "ww");
        due("39 of 40", x.never(2000, 0), 39);
        x.lay(0, 39);
        due("39 now, then 0", x.never(2000, 0), 38);
        due("the first", x.never(2000, 1), 1);
    }

    static void p14StateWithoutWheels() {
        says("NEVER (n 1 .. 2000): how many (what 0), the first (1; NOT). BAD; STATE: no WHEELS.");
        for (int what = 0; what <= 1; what++) {
            int w = what;
            refused(WHEELLESS, "never(1, " + w + ")", STATE, x -> x.never(1, w));
        }
        refused(WHEELLESS, "never(0, 0)", BAD, x -> x.never(0, 0));
        refused(WHEELLESS, "never(2001, 0)", BAD, x -> x.never(2001, 0));
        refused(WHEELLESS, "never(1, 2)", BAD, x -> x.never(1, 2));
    }

    // ------------------------------------------------------------------ 15 meets

    static void p15NightsFrom1To2000() {
        says("n 1 .. 2000): how often (what 0), the first (1; NOT). BAD.");
        WheelSkips x = frosty("t<2000", "fww");
        due("meets(0, 1, 1)", x.meets(0, 1, 1), 1);
        due("meets(1, 2000, 0)", x.meets(1, 2000, 0), 1);
        due("meets(1, 2000, 1)", x.meets(1, 2000, 1), 2000);
        due("meets(1, 1999, 0)", x.meets(1, 1999, 0), 0);
        due("meets(1, 1999, 1)", x.meets(1, 1999, 1), NOT);
        refusedFor(RICH, "meets", BAD, (y, n) -> y.meets(0, n, 0), 0, 2001, -1, MIN, MAX);
    }

    static void p15WhatIs0Or1() {
        says("how often (what 0), the first (1; NOT). BAD.");
        refusedFor(RICH, "meets of what", BAD, (y, what) -> y.meets(0, 5, what), -1, 2, MIN, MAX);
    }

    static void p15WheelAndPlaceThatThereAre() {
        says("MEETS (wp: 100 times the WHEEL and the PLACE;");
        WheelSkips x = with("ww", times(40, "w"), "ww", "www");
        due("the last of wheel 0", x.meets(1, 1, 0), 1);
        due("the last of wheel 1", x.meets(139, 78, 1), 78);
        due("the last of wheel 3", x.meets(302, 320, 1), 320);
        due("not in 319", x.meets(302, 319, 1), NOT);
        for (int wp : new int[] {-1, 2, 40, 99, 140, 199, 202, 303, 400, 401, -100, MIN, MAX}) {
            due("meets(" + wp + ", 5, 0)", x.meets(wp, 5, 0), BAD);
        }
        refusedFor(RICH, "meets", BAD, (y, wp) -> y.meets(wp, 5, 1), -1, 6, 103, 200, -100, MIN, MAX);
        refusedFor(WHEELLESS, "meets", BAD, (y, wp) -> y.meets(wp, 5, 1), 0);
    }

    static void p15TheFirstNightIs1() {
        says("MEETS: in n NIGHTS how often a WHEEL is at a PLACE; the first of these NIGHTS (from 1).");
        WheelSkips x = with("www", "ww");
        due("now does not count", x.meets(0, 2, 0), 0);
        refused(() -> with("www", "ww"), "nor is it the first", NOT, y -> y.meets(0, 2, 1));
        due("night 3", x.meets(0, 3, 1), 3);
        due("the next", x.meets(1, 1, 1), 1);
        due("wheel 1 in night 3", x.meets(101, 3, 1), 3);
        due("not in 2", x.meets(101, 2, 1), NOT);
        changesNothing(RICH, "meets(101, 100, 0)", y -> y.meets(101, 100, 0));
    }

    // ------------------------------------------------------------------ 16 two

    static void p16NightsFrom1To20000() {
        says("TWO (wp, vq likewise; n 1 .. 20000). BAD; NOT.");
        WheelSkips x = frosty("t<2000*10", "fww");
        due("two(0, 0, 1)", x.two(0, 0, 1), 1);
        due("two(1, 1, 20000)", x.two(1, 1, 20000), 20000);
        due("two(1, 1, 19999)", x.two(1, 1, 19999), NOT);
        refusedFor(RICH, "two", BAD, (y, n) -> y.two(0, 0, n), 0, 20001, -1, MIN, MAX);
    }

    static void p16WheelsAndPlacesThatThereAre() {
        says("TWO (wp, vq likewise;");
        WheelSkips x = with("ww", times(40, "w"), "ww", "www");
        due("two(1, 139, 79)", x.two(1, 139, 79), 79);
        due("two(1, 139, 78)", x.two(1, 139, 78), NOT);
        due("two(302, 1, 500)", x.two(302, 1, 500), 321);
        for (int wp : new int[] {-1, 2, 40, 99, 140, 202, 303, 400, -100, MIN, MAX}) {
            due("two(" + wp + ", 0, 5)", x.two(wp, 0, 5), BAD);
            due("two(0, " + wp + ", 5)", x.two(0, wp, 5), BAD);
        }
        refusedFor(RICH, "two", BAD, (y, wp) -> y.two(wp, 1, 5), -1, 6, 103, 200, MIN, MAX);
        refusedFor(RICH, "two, the other,", BAD, (y, vq) -> y.two(1, vq, 5), -1, 6, 103, 200, MIN, MAX);
        refusedFor(WHEELLESS, "two", BAD, (y, n) -> y.two(0, 0, n), 1);
    }

    static void p16OneAndTheSameMayBeTold() {
        says("TWO: the first of n NIGHTS in which two WHEELS are at PLACES (one each; one and the same may be told).");
        WheelSkips x = with("www", "ww");
        due("one and the same", x.two(1, 1, 1), 1);
        due("now does not count", x.two(0, 0, 3), 3);
        due("in night 4", x.two(1, 101, 4), 4);
        due("the other way round", x.two(101, 1, 4), 4);
        refused(() -> with("www", "ww"), "not within 3", NOT, y -> y.two(1, 101, 3));
        refused(() -> with("www", "ww"), "one at two places", NOT, y -> y.two(1, 2, 20000));
        changesNothing(RICH, "two(1, 101, 300)", y -> y.two(1, 101, 300));
    }

    // ------------------------------------------------------------------ 17 round

    static void p17NightsFrom1To20000() {
        says("ROUND (n 1 .. 20000). BAD; NOT.");
        WheelSkips x = frosty("t<2000*10", "fw");
        x.lay(0, 1);
        due("round(20000)", x.round(20000), 20000);
        due("round(19999)", x.round(19999), NOT);
        due("round(1) in the ice", frosty("1", "fw").round(1), 1);
        refusedFor(RICH, "round", BAD, WheelSkips::round, 0, 20001, -1, MIN, MAX);
        refusedFor(WHEELLESS, "round", BAD, WheelSkips::round, 0, 20001);
    }

    static void p17AllPlacesAndWaits() {
        says("ROUND: the first of n NIGHTS in which all PLACES and WAITS are as now.");
        due("one wheel", with("www").round(3), 3);
        refused(() -> with("www"), "one wheel in 2", NOT, x -> x.round(2));
        due("two wheels", with("www", "ww").round(6), 6);
        refused(() -> with("www", "ww"), "two wheels in 5", NOT, x -> x.round(5));
        due("four", with("ww", "ww", "ww", "ww").round(16), 16);
        due("four in 15", with("ww", "ww", "ww", "ww").round(15), NOT);
        due("WAITS", with("2w").round(4), 4);
        due("WAITS in 3", with("2w").round(3), NOT);
        due("WAITS of wheel 1", with("ss", "1w").round(20), 3);
        changesNothing(RICH, "round(300)", x -> x.round(300));
    }

    static void p17WithoutWheelsTheFirst() {
        says("all PLACES and WAITS are as now");
        due("round(1)", new WheelSkips().round(1), 1);
        changesNothing(WHEELLESS, "round(5)", x -> x.round(5));
    }

    // ------------------------------------------------------------------ 18 truth

    static void p18PlacesFrom0To39() {
        says("TRUTH (ab: 100 a and b; 0 .. 39 both, else BAD, also without WHEELS). BAD; NOT; STATE: no WHEELS.");
        WheelSkips x = with(times(40, "w"));
        due("truth(0)", x.truth(0), 40);
        due("truth(39)", x.truth(39), 39);
        due("truth(3900)", x.truth(3900), 1);
        due("truth(3939)", x.truth(3939), 40);
        refusedFor(RICH, "truth", BAD, WheelSkips::truth, -1, 40, 99, 140, 3940, 4000, 4039, -100, MIN, MAX);
        refusedFor(WHEELLESS, "truth", BAD, WheelSkips::truth, -1, 40, 99, 3940, 4000, MIN, MAX);
    }

    static void p18StateWithoutWheels() {
        says("BAD; NOT; STATE: no WHEELS.");
        refusedFor(WHEELLESS, "truth", STATE, WheelSkips::truth, 0, 39, 3900, 3939);
    }

    static void p18NowCountsForTheFirstAlone() {
        says("from now (which counts) the first NIGHT within 2000 with WHEEL 0 at a; from that on (it does not count)");
        WheelSkips x = with("www");
        due("a now, b next", x.truth(1), 1);
        due("a now, b again", x.truth(0), 3);
        due("a next, b again", x.truth(101), 3);
        due("a next, b now", x.truth(100), 2);
        x.on(1);
        due("a now, b next", x.truth(102), 1);
        due("now is night 6", on(frosty("t<10", "fw"), 6).truth(1), 4);
        changesNothing(RICH, "truth(2)", y -> y.truth(2));
    }

    static void p18Within2000() {
        says("the first within 2000 with it at b: how many NIGHTS lie between.");
        due("b in the 2000th", frosty("t<2000", "fw").truth(1), 2000);
        refused(() -> frosty("t<2001", "fw"), "b in the 2001st", NOT, x -> x.truth(1));
        due("a in the 2000th", frosty("t<2000", "fw").truth(100), 1);
        refused(() -> frosty("t<2001", "fw"), "a in the 2001st", NOT, x -> x.truth(100));
        due("a in the 1st, b 2000 on", frosty("t<2001", "wfw").truth(102), 2000);
        refused(() -> frosty("t<2002", "wfw"), "a in the 1st, b 2001 on", NOT, x -> x.truth(102));
        due("both far on", frosty("t<1500|t>1500&t<3000", "ffw").truth(102), 1500);
    }

    static void p18PlacesThatAreNotThere() {
        says("0 .. 39 both");
        refusedFor(() -> with("www"), "truth", NOT, WheelSkips::truth, 3, 39, 300, 3900, 3939);
    }

    // ------------------------------------------------------------------ 19 near

    static void p19NightsFrom1To400() {
        says("NEAR (n 1 .. 400): 1000 times the tooth, and the letter (what 0), how often wrong (1); as it is how often wrong (2). BAD; STATE: no WHEELS.");
        WheelSkips x = frosty("1", "fff");
        due("near(1, 2)", x.near(1, 2), 1);
        due("near(3, 2)", x.near(3, 2), 2);
        due("near(399, 2)", x.near(399, 2), 266);
        due("near(400, 2)", x.near(400, 2), 267);
        due("near(1, 1)", x.near(1, 1), 0);
        due("near(398, 1)", x.near(398, 1), 265);
        due("near(400, 1)", x.near(400, 1), 266);
        due("near(400, 0)", x.near(400, 0), 'w');
        refusedFor(RICH, "near", BAD, (y, n) -> y.near(n, 0), 0, 401, -1, MIN, MAX);
        refusedFor(RICH, "near as it is", BAD, (y, n) -> y.near(n, 2), 0, 401);
    }

    static void p19WhatIs0To2() {
        says("the letter (what 0), how often wrong (1); as it is how often wrong (2)");
        refusedFor(RICH, "near of what", BAD, (y, what) -> y.near(5, what), -1, 3, MIN, MAX);
    }

    static void p19StateWithoutWheels() {
        says("BAD; STATE: no WHEELS.");
        refusedFor(WHEELLESS, "near of what", STATE, (y, what) -> y.near(400, what), 0, 1, 2);
        refusedFor(WHEELLESS, "near of what", BAD, (y, what) -> y.near(400, what), -1, 3);
        refusedFor(WHEELLESS, "near", BAD, (y, n) -> y.near(n, 1), 0, 401);
    }

    static void p19NotTheSameOneAndTheFirstOfLikeOnes() {
        says("each with w, s, 1 in its stead (in this order; not the same one)");
        says("of like ones the first tooth, then the first letter. As it is: how often it is wrong.");
        WheelSkips w = with("ww");
        due("tooth 0 is w: s is wrong, and 1; so tooth 1", w.near(1, 0), 1000 + 's');
        due("none wrong", w.near(1, 1), 0);
        WheelSkips s = with("ss");
        due("tooth 0 is s: w", s.near(1, 0), 'w');
        WheelSkips one = with("1w");
        due("tooth 0 is 1: w", one.near(1, 0), 'w');
        WheelSkips day = with("www", "ww");
        day.set(0, 1);
        due("all alike: tooth 0, s", day.near(400, 0), 's');
        due("none wrong", day.near(400, 1), 0);
        changesNothing(RICH, "near(400, 0)", x -> x.near(400, 0));
    }

    static void p19AStickOf1InItsStead() {
        says("each with w, s, 1 in its stead");
        WheelSkips x = with("swswwwwww");
        due("as it is: 2 4 5 6 7", x.near(5, 2), 5);
        due("then: 2 2 3 4 5", x.near(5, 1), 1);
        due("near(5, 0)", x.near(5, 0), 2000 + '1');
    }

    static void p19TheRightDayComesRound() {
        says("right is the DAY of the PLACE (PLACE now and i) by how many TEETH (what is left)");
        WheelSkips x = with(times(9, "w"));
        x.lay(0, 8);
        due("from the last place on", x.near(400, 2), 0);
        x.tooth(0, 8, 's');
        due("place 1 for place 0", x.near(1, 2), 1);
        due("near(1, 0)", x.near(1, 0), 8000 + 'w');
        due("near(400, 1)", x.near(400, 1), 0);
        WheelSkips last = with(times(39, "w") + "s");
        due("the last tooth of 40", last.near(400, 0), 39000 + 'w');
    }

    // ------------------------------------------------------------------ 20 record

    static void p20NightsFrom0To5000() {
        says("RECORDS 0 .. 39, as they come: a NIGHT (0 .. 5000), a PLACE (0 .. 39) of WHEEL 0.");
        WheelSkips x = new WheelSkips();
        due("record(0, 0)", x.record(0, 0), 0);
        due("record(5000, 0)", x.record(5000, 0), 1);
        refusedFor(RICH, "record of night", BAD, (y, n) -> y.record(n, 1), -1, 5001, MIN, MAX);
    }

    static void p20PlacesFrom0To39() {
        says("a PLACE (0 .. 39) of WHEEL 0");
        WheelSkips x = new WheelSkips();
        due("record(1, 0)", x.record(1, 0), 0);
        due("record(1, 39)", x.record(1, 39), 1);
        refusedFor(RICH, "record of place", BAD, (y, p) -> y.record(14, p), -1, 40, MIN, MAX);
    }

    static void p20RecordsFrom0To39() {
        says("A RECORD: its number. BAD, FULL: 40.");
        WheelSkips x = new WheelSkips();
        for (int r = 0; r <= 39; r++) due("record", x.record(r, 0), r);
        refused(() -> withRecords(40), "a 41st record", FULL, y -> y.record(50, 2));
        refusedFor(() -> withRecords(40), "a 41st record", BAD, (y, p) -> y.record(50, p), -1, 40);
        due("count(2)", withRecords(40).count(2), 40);
    }

    // ------------------------------------------------------------------ 21 records

    private static WheelSkips withRow(int sort, int... values) {
        WheelSkips x = rich();
        x.row(0, sort, values.length);
        for (int i = 0; i < values.length; i++) x.put(0, i, values[i]);
        return x;
    }

    static void p21ShelvesFrom0To5() {
        says("RECORDS FROM A ROW on a SHELF, from place i on, n (1 .. 30) of them: how many came (0 with i below 0). BAD, -12");
        due("shelf 0", withRow(1, 12, 4).records(0, 0, 1), 1);
        due("shelf 5", rich().records(5, 0, 1), 1);
        refusedFor(RICH, "records of shelf", BAD, (x, s) -> x.records(s, 0, 1), -1, 6, MIN, MAX);
    }

    static void p21From1To30OfThem() {
        says("n (1 .. 30) of them");
        WheelSkips x = withRow(1, new int[60]);
        due("records(0, 0, 1)", x.records(0, 0, 1), 1);
        due("records(0, 0, 30)", x.records(0, 0, 30), 30);
        due("count(2)", x.count(2), 34);
        refusedFor(() -> withRow(1, new int[60]), "records", BAD, (y, n) -> y.records(0, 0, n), 0, 31, -1, MIN, MAX);
        refusedFor(RICH, "records of a body", BAD, (y, n) -> y.records(1, 0, n), 0, 31);
    }

    static void p21NoneFromPlacesBelow0() {
        says("how many came (0 with i below 0)");
        due("records(2, 0, 1)", rich().records(2, 0, 1), 1);
        refusedFor(RICH, "records from place", 0, (x, i) -> x.records(2, i, 2), -1, -2, -3, MIN, MIN + 1);
    }

    static void p21TheRowEndsWithinATwoToo() {
        says("it ends where the row is missing, ends (within a two, too), one is not as it may be, or RECORDS are FULL: those ahead came.");
        due("a row of 5 from 0", rich().records(2, 0, 3), 2);
        due("from 1", rich().records(2, 1, 3), 2);
        due("from 3: the last two", rich().records(2, 3, 1), 1);
        refusedFor(RICH, "records from place", 0, (x, i) -> x.records(2, i, 1), 4, 5, 6, 59, 60, MAX, MAX - 1);
        refused(() -> withRow(1), "records of a row of 0", 0, x -> x.records(0, 0, 1));
        refused(() -> withRow(1, 5), "records of a row of 1", 0, x -> x.records(0, 0, 1));
    }

    static void p21TheRowIsMissing() {
        says("(no ROW of shorts; a SHELF that holds nothing is missing)");
        refused(RICH, "records of nothing", 0, x -> x.records(0, 0, 1));
        refused(RICH, "records of nothing", 0, x -> x.records(0, 0, 30));
        refused(RICH, "records of a body", KIND, x -> x.records(1, 0, 1));
        refused(RICH, "records of longs", KIND, x -> x.records(3, 0, 1));
        refused(RICH, "records of booleans", KIND, x -> x.records(4, 0, 1));
        refused(() -> withRow(0, 12, 4), "records of bytes", KIND, x -> x.records(0, 0, 1));
        refused(() -> withRow(2, 12, 4), "records of ints", KIND, x -> x.records(0, 0, 1));
        due("of shorts", withRow(1, 12, 4).records(0, 0, 1), 1);
    }

    static void p21OneIsNotAsItMayBe() {
        says("one is not as it may be");
        due("0, 0 and 5000, 39", withRow(1, 0, 0, 5000, 39).records(0, 0, 2), 2);
        int[][] others = {{5001, 0}, {-1, 0}, {0, 40}, {0, -1}, {32767, 0}, {-32768, 0}, {0, 32767}};
        for (int[] o : others) {
            refused(() -> withRow(1, o[0], o[1], 14, 1), "records of " + o[0] + ", " + o[1], 0, x -> x.records(0, 0, 2));
            WheelSkips x = withRow(1, 14, 1, o[0], o[1], 15, 2);
            due("the one ahead came", x.records(0, 0, 3), 1);
            WheelSkips y = withRow(1, 14, 1, o[0], o[1], 15, 2);
            due("record(14, 1)", y.record(14, 1), 3);
            alike("behind those ahead of " + o[0] + ", " + o[1], x, y);
        }
    }

    static void p21RecordsAreFull() {
        says("or RECORDS are FULL: those ahead came");
        WheelSkips x = withRecords(38);
        x.row(0, 1, 6);
        due("two more", x.records(0, 0, 3), 2);
        due("count(2)", x.count(2), 40);
        due("no more", x.records(0, 0, 1), 0);
        WheelSkips y = withRecords(37);
        y.row(0, 1, 6);
        due("all three", y.records(0, 0, 3), 3);
        refused(() -> {
            WheelSkips z = withRecords(40);
            z.row(0, 1, 6);
            return z;
        }, "records beyond 40", 0, z -> z.records(0, 0, 3));
    }

    // ------------------------------------------------------------------ 22 clear

    static void p22FromNoneTo40() {
        says("All RECORDS are gone: how many there were.");
        WheelSkips x = with("ww");
        due("none", x.clear(), 0);
        x.record(1, 0);
        due("one", x.clear(), 1);
        due("none again", x.clear(), 0);
        WheelSkips y = withRecords(40);
        due("40", y.clear(), 40);
        due("count(2)", y.count(2), 0);
        due("a new one is 0", y.record(5, 0), 0);
        alike("cleared", cleared(withRecords(40)), withRecords(0));
        changesNothing(() -> withRecords(0), "clear()", z -> z.clear());
    }

    private static WheelSkips cleared(WheelSkips x) {
        x.clear();
        return x;
    }

    // ------------------------------------------------------------------ 23 judge

    static void p23RecordsBelowTheNightArePassedOver() {
        says("A RECORD of a NIGHT below THE NIGHT is passed over.");
        WheelSkips x = with("wwww");
        x.record(4, 1);
        x.record(5, 0);
        x.on(4);
        due("that of this night counts", x.judge(), 0);
        x.lay(0, 1);
        due("right; then that of the next", x.judge(), 1);
        x.on(1);
        due("below: passed over; now 5 is at 2", x.judge(), 1);
        x.on(1);
        due("both below", x.judge(), NOT);
        WheelSkips first = with("ww");
        first.record(0, 0);
        due("night 0", first.judge(), NOT);
        first.record(0, 1);
        due("night 0 elsewhere", first.judge(), 1);
    }

    static void p23TheFirstByNumber() {
        says("JUDGED: the first RECORD (by number) that is not as WHEEL 0 would be in that NIGHT, as all goes on from now; NOT.");
        WheelSkips x = with("wwww");
        refused(() -> with("wwww"), "no records", NOT, y -> y.judge());
        x.record(9, 1);
        due("all right", x.judge(), NOT);
        x.record(8, 1);
        x.record(3, 0);
        due("1 ahead of 2", x.judge(), 1);
        WheelSkips late = withRecords(39);
        late.record(5000, 1);
        due("the 40th", late.judge(), 39);
        WheelSkips far = with("wwww");
        far.record(5000, 0);
        due("night 5000", far.judge(), NOT);
        changesNothing(RICH, "judge()", y -> y.judge());
    }

    static void p23StateWithoutWheels() {
        says("JUDGED. NOT; STATE: no WHEELS.");
        refused(WHEELLESS, "judge()", STATE, x -> x.judge());
        refused(() -> new WheelSkips(), "judge() without records", STATE, x -> x.judge());
    }

    // ------------------------------------------------------------------ 24 fits

    static void p24PlacesThatThereAre() {
        says("FITS of a tooth of WHEEL 0");
        WheelSkips x = with(times(40, "w"), times(40, "w"));
        due("fits(0)", x.fits(0), 15);
        due("fits(39)", x.fits(39), 15);
        refusedFor(RICH, "fits", BAD, WheelSkips::fits, -1, 6, 40, 100, MIN, MAX);
        refusedFor(WHEELLESS, "fits", BAD, WheelSkips::fits, 0, -1);
    }

    static void p24EachOfTheFourAlone() {
        says("which of w (1), s (2), f (4), a stick of 1 (8), in its stead, make all RECORDS right (bits)");
        WheelSkips x = frosty("t<3", "9wwww");
        due("no records", x.fits(0), 15);
        x.record(1, 1);
        due("w", x.fits(0), 1);
        x.clear();
        x.record(1, 2);
        due("s", x.fits(0), 2);
        x.clear();
        x.record(2, 0);
        due("f", x.fits(0), 4);
        x.clear();
        x.record(1, 0);
        due("f and a stick", x.fits(0), 12);
        x.record(2, 1);
        due("a stick", x.fits(0), 8);
        x.record(2, 2);
        due("none", x.fits(0), 0);
        changesNothing(RICH, "fits(0)", y -> y.fits(0));
    }

    // ------------------------------------------------------------------ 25 sure

    static void p25FromNoneToAll() {
        says("SURE: teeth of WHEEL 0 that just one of these fits: how many; the first.");
        WheelSkips x = with("wws");
        due("none", x.sure(0), 0);
        refused(() -> with("wws"), "no first", NOT, y -> y.sure(1));
        x.record(2, 2);
        x.record(3, 1);
        due("the last tooth", x.sure(1), 2);
        due("just that", x.sure(0), 1);
        changesNothing(RICH, "sure(0)", y -> y.sure(0));
        changesNothing(RICH, "sure(1)", y -> y.sure(1));
        WheelSkips all = frosty("1", times(40, "w"));
        for (int i = 1; i <= 39; i++) all.record(i, i);
        due("all but the last", all.sure(0), 39);
        all.record(40, 0);
        due("all 40", all.sure(0), 40);
        due("the first", all.sure(1), 0);
    }

    static void p25WhatIs0Or1() {
        says("SURE: how many (what 0), the first (1; NOT). BAD; STATE: no WHEELS.");
        refusedFor(RICH, "sure", BAD, WheelSkips::sure, -1, 2, MIN, MAX);
        refusedFor(WHEELLESS, "sure", BAD, WheelSkips::sure, -1, 2);
        refusedFor(WHEELLESS, "sure", STATE, WheelSkips::sure, 0, 1);
    }

    // ------------------------------------------------------------------ 26 when

    private static WheelSkips brokeSometime(int... nightsAndPlaces) {
        WheelSkips x = with("bbb");
        x.broke(0, 7);
        for (int i = 0; i + 1 < nightsAndPlaces.length; i += 2) x.record(nightsAndPlaces[i], nightsAndPlaces[i + 1]);
        return x;
    }

    private static void whenIs(WheelSkips x, int least, int greatest, int many) {
        due("when(0)", x.when(0), least);
        due("when(1)", x.when(1), greatest);
        due("when(2)", x.when(2), many);
    }

    static void p26BreaksFrom0To400() {
        says("WHEN: of BROKE 0 .. 400 of WHEEL 0 (in thought) those by which all RECORDS are right: the least, the greatest, how many.");
        whenIs(brokeSometime(), 0, 400, 401);
        whenIs(brokeSometime(1, 2), 0, 1, 2);
        whenIs(brokeSometime(1, 1), 2, 400, 399);
        whenIs(brokeSometime(398, 2, 399, 0), 400, 400, 1);
        whenIs(brokeSometime(398, 2, 399, 0, 400, 1), NOT, NOT, 0);
        whenIs(brokeSometime(397, 1, 398, 2, 399, 1), 399, 399, 1);
        whenIs(brokeSometime(1, 1, 2, 0), 2, 2, 1);
        whenIs(brokeSometime(3, 0), 0, 400, 399);
        whenIs(brokeSometime(300, 0), 0, 400, 201);
    }

    static void p26NotAndNone() {
        says("WHEN: the least (what 0), the greatest (1), how many (2; 0). BAD; NOT; STATE: no WHEELS.");
        for (int what = 0; what <= 1; what++) {
            int w = what;
            refused(() -> brokeSometime(1, 0), "when(" + w + ")", NOT, x -> x.when(w));
        }
        refused(() -> brokeSometime(1, 0), "when(2)", 0, x -> x.when(2));
        changesNothing(RICH, "when(0)", x -> x.when(0));
        changesNothing(() -> brokeSometime(5, 1), "when(1)", x -> x.when(1));
    }

    static void p26WhatIs0To2() {
        says("how many (2; 0). BAD; NOT; STATE: no WHEELS.");
        refusedFor(RICH, "when", BAD, WheelSkips::when, -1, 3, MIN, MAX);
        refusedFor(WHEELLESS, "when", BAD, WheelSkips::when, -1, 3);
        refusedFor(WHEELLESS, "when", STATE, WheelSkips::when, 0, 1, 2);
    }

    // ------------------------------------------------------------------ 27 watch

    /** Where w, s and a stick, but not a frost, come together at the frost of a place till a night. */
    private static WheelSkips gathered(int place, int until) {
        WheelSkips x = frosty("t<" + until, times(place, "w") + "f" + times(39 - place, "w"));
        x.record(until - 10, place);
        return x;
    }

    static void p27NightsFrom1To10() {
        says("WATCH of a tooth: of NIGHTS 1 .. 10 from now the fewest (bits, NIGHT 1 the lowest; of like ones the least)");
        WheelSkips x = gathered(20, 60);
        due("w, s and a stick fit", x.fits(0), 11);
        due("night 1", x.watch(0), 1);
        due("night 2", x.watch(1), 2);
        due("night 10", x.watch(9), 512);
        due("not before night 11", x.watch(10), NOT);
        x.on(1);
        due("from now: night 10", x.watch(10), 512);
        due("and night 11", x.watch(11), NOT);
        refused(() -> gathered(20, 60), "watch(10)", NOT, y -> y.watch(10));
    }

    static void p27FewerThanTwoFit() {
        says("0: fewer than two fit; NOT: none do.");
        WheelSkips x = with("wwww");
        refused(() -> with("wwww"), "w and f are alike", NOT, y -> y.watch(0));
        x.record(1, 2);
        due("one fits", x.fits(0), 2);
        due("one fits", x.watch(0), 0);
        x.record(2, 2);
        due("none fits", x.fits(0), 0);
        due("none fits", x.watch(0), 0);
        WheelSkips two = frosty("1", "wwww");
        two.record(1, 0);
        due("two fit", two.fits(0), 12);
        due("night 2", two.watch(0), 2);
        changesNothing(RICH, "watch(0)", y -> y.watch(0));
    }

    static void p27MoreThanOneNight() {
        says("in some of which WHEEL 0 would be at unlike PLACES for each two of those that FIT there");
        WheelSkips x = frosty("t=1", "wwww");
        due("all four fit", x.fits(0), 15);
        due("nights 1 and 6", x.watch(0), 33);
    }

    static void p27PlacesThatThereAre() {
        says("WATCH, as bits. BAD; NOT.");
        due("the last", frosty("1", times(40, "w")).watch(39), NOT);
        refusedFor(RICH, "watch", BAD, WheelSkips::watch, -1, 6, 40, MIN, MAX);
        refusedFor(WHEELLESS, "watch", BAD, WheelSkips::watch, 0, -1);
    }

    // ------------------------------------------------------------------ 28 image, 29 back

    static void p28TheNightOfTheImage() {
        says("AN IMAGE is kept: THE NIGHT.");
        due("night 0", new WheelSkips().image(), 0);
        due("night 2001", on(on(with("ww"), 2000), 1).image(), 2001);
        due("the latest night", atNight(1000000).image(), 1000000);
        changesNothing(() -> imaged(rich()), "image() again", x -> x.image());
    }

    private static WheelSkips imaged(WheelSkips x) {
        x.image();
        return x;
    }

    static void p28TheLatestImageIsKept() {
        says("AN IMAGE keeps THE NIGHT, PLACES, WAITS (WHEELS that came since stay as they are).");
        WheelSkips x = with("w9", "www");
        x.on(1);
        x.image();
        x.on(3);
        due("image()", x.image(), 4);
        x.on(3);
        due("back()", x.back(), 4);
        due("WAITS", x.of(0, 2), 3);
        x.on(1);
        due("back() again", x.back(), 4);
        due("WAITS", x.of(0, 2), 3);
    }

    static void p29StateWithoutAnImage() {
        says("All that it keeps is as in THE IMAGE: THE NIGHT. STATE: there is none.");
        refused(() -> plain("w3s"), "back()", STATE, x -> x.back());
        refused(() -> new WheelSkips(), "back()", STATE, x -> x.back());
        WheelSkips x = new WheelSkips();
        x.image();
        due("an image of nothing", x.back(), 0);
    }

    static void p29WheelsThatCameSinceStay() {
        says("(WHEELS that came since stay as they are)");
        WheelSkips x = with("ww", "9w");
        x.on(3);
        x.image();
        wheel(x, "9www");
        x.on(8);
        x.lay(2, 3);
        due("back()", x.back(), 3);
        due("wheel 0", x.of(0, 1), 1);
        due("wheel 1: WAITS", x.of(1, 2), 1);
        due("wheel 2 came since", x.of(2, 1), 3);
        WheelSkips y = new WheelSkips();
        y.image();
        wheel(y, "9www");
        y.on(4);
        due("back()", y.back(), 0);
        due("WAITS stay", y.of(0, 2), 4);
    }

    static void p29AllElseStays() {
        says("All that it keeps is as in THE IMAGE");
        WheelSkips x = rich();
        x.image();
        x.tooth(0, 0, '4');
        x.broke(1, 44);
        x.set(0, 4);
        x.record(20, 1);
        x.body(1);
        x.on(5);
        x.lay(1, 1);
        x.back();
        WheelSkips y = rich();
        y.image();
        y.tooth(0, 0, '4');
        y.broke(1, 44);
        y.set(0, 4);
        y.record(20, 1);
        y.body(1);
        alike("behind back()", x, y);
    }

    // ------------------------------------------------------------------ 30 undo, 31 redo

    static void p30StateIfNoneMayBe() {
        says("UNDONE: how many may still be. STATE: none.");
        refused(() -> with("ww"), "undo()", STATE, x -> x.undo());
        refused(WHEELLESS, "undo()", STATE, x -> x.undo());
        WheelSkips x = with("ww");
        x.broke(0, 1);
        due("one", x.undo(), 0);
        due("none", x.undo(), STATE);
        refused(() -> {
            WheelSkips y = with("ww", "ww");
            y.broke(0, 1);
            y.undo();
            return y;
        }, "undo() of none", STATE, y -> y.undo());
    }

    static void p30FortyAreKept() {
        says("40 at most are kept.");
        WheelSkips x = with("ww");
        for (int i = 1; i <= 40; i++) x.broke(0, i);
        due("count(4)", x.count(4), 40);
        for (int i = 39; i >= 0; i--) due("undo()", x.undo(), i);
        due("all 40 undone", x.of(0, 3), 0);
        WheelSkips y = with("ww");
        for (int i = 1; i <= 41; i++) y.broke(0, i);
        due("count(4)", y.count(4), 40);
        for (int i = 39; i >= 0; i--) due("undo()", y.undo(), i);
        due("the first of 41 is not undone", y.of(0, 3), 1);
        due("none", y.undo(), STATE);
        for (int i = 39; i >= 0; i--) due("redo()", y.redo(), i);
        due("all done again", y.of(0, 3), 41);
    }

    static void p30TheLatestFirst() {
        says("CHANGES (teeth, BROKE) can be UNDONE, the latest first");
        WheelSkips x = with("ww", "ww");
        x.tooth(0, 1, 's');
        x.broke(1, 5);
        x.tooth(0, 1, '3');
        due("undo()", x.undo(), 2);
        due("of(0, 101)", x.of(0, 101), 's');
        due("undo()", x.undo(), 1);
        due("of(1, 3)", x.of(1, 3), 0);
        due("undo()", x.undo(), 0);
        due("of(0, 101)", x.of(0, 101), 'w');
    }

    static void p31StateIfNoneMayBe() {
        says("DONE AGAIN: how many may still be. STATE: none.");
        refused(() -> with("ww"), "redo()", STATE, x -> x.redo());
        refused(WHEELLESS, "redo()", STATE, x -> x.redo());
        refused(() -> {
            WheelSkips x = rich();
            x.redo();
            return x;
        }, "redo() of none", STATE, x -> x.redo());
        WheelSkips x = with("ww");
        x.broke(0, 1);
        due("none yet", x.redo(), STATE);
        x.undo();
        due("one", x.redo(), 0);
        due("none", x.redo(), STATE);
    }

    static void p31AsLongAsNoOtherCameBehind() {
        says("and DONE AGAIN (as long as no other came behind)");
        WheelSkips x = with("ww");
        x.broke(0, 1);
        x.broke(0, 2);
        x.undo();
        x.undo();
        due("redo()", x.redo(), 1);
        x.tooth(0, 0, 's');
        due("another came", x.redo(), STATE);
        due("count(4)", x.count(4), 2);
        due("undo()", x.undo(), 1);
        due("undo()", x.undo(), 0);
        due("of(0, 3)", x.of(0, 3), 0);
        due("redo()", x.redo(), 1);
        due("of(0, 3)", x.of(0, 3), 1);
    }

    static void p31WhatIsRefusedCameNotBehind() {
        says("What is answered so changes nothing.");
        WheelSkips x = with("ww");
        x.broke(0, 1);
        x.undo();
        due("broke(0, 10000)", x.broke(0, 10000), BAD);
        due("tooth(0, 2, w)", x.tooth(0, 2, 'w'), BAD);
        due("tooth(0, 0, 0)", x.tooth(0, 0, '0'), BAD);
        due("tooth(0, 0, w), as it was", x.tooth(0, 0, 'w'), 'w');
        x.on(1);
        x.lay(0, 0);
        due("redo()", x.redo(), 0);
    }

    static void p31BehindFortyAndOne() {
        says("40 at most are kept.");
        WheelSkips x = with("ww");
        for (int i = 1; i <= 40; i++) x.broke(0, i);
        for (int i = 0; i < 40; i++) x.undo();
        due("redo()", x.redo(), 39);
        due("undo()", x.undo(), 0);
        due("redo()", x.redo(), 39);
        x.broke(0, 77);
        due("count(4)", x.count(4), 2);
        due("redo()", x.redo(), STATE);
        refusedFor(() -> {
            WheelSkips y = with("ww", "ww");
            for (int i = 1; i <= 41; i++) y.broke(0, i);
            return y;
        }, "broke behind 41", BAD, (y, v) -> y.broke(0, v), -1, 10000);
    }

    // ------------------------------------------------------------------ 32 body

    static void p32KindsFrom0To7() {
        says("A BODY of a KIND (0 .. 7) is kept: its number. BAD, FULL.");
        WheelSkips x = new WheelSkips();
        due("body(0)", x.body(0), 0);
        due("body(7)", x.body(7), 1);
        refusedFor(RICH, "body", BAD, WheelSkips::body, -1, 8, MIN, MAX);
    }

    static void p32BodiesFrom0To49() {
        says("BODIES 0 .. 49 are kept by call, of KINDS");
        WheelSkips x = new WheelSkips();
        for (int b = 0; b <= 49; b++) due("body", x.body(b % 8), b);
        due("act of the last", x.act(49, 0, 0), 49 + 3);
        refusedFor(() -> withBodies(50), "a 51st body", FULL, WheelSkips::body, 0, 7);
        refusedFor(() -> withBodies(50), "a 51st body", BAD, WheelSkips::body, -1, 8);
    }

    // ------------------------------------------------------------------ 33 act

    static void p33BodiesAndActsThatThereAre() {
        says("An ACT (0 .. 3) of a BODY with x. 0, and no TRACE then: no such BODY, ACT.");
        WheelSkips x = withBodies(3);
        due("act(2, 0, 5)", x.act(2, 0, 5), 7);
        due("act(2, 3, 5)", x.act(2, 3, 5), -14 - 3);
        int[][] none = {{-1, 0}, {3, 0}, {50, 0}, {MIN, 0}, {MAX, 0}, {0, -1}, {0, 4}, {0, MIN}, {0, MAX}, {3, 4}};
        for (int[] n : none) {
            WheelSkips y = plain("w3s");
            y.act(0, 3, 4);
            due("act(" + n[0] + ", " + n[1] + ", 9)", y.act(n[0], n[1], 9), 0);
            due("count(6)", y.count(6), 0);
            due("trace(0)", y.trace(0), BAD);
            alike("behind act(" + n[0] + ", " + n[1] + ", 9)", y, plain("w3s"));
        }
    }

    static void p33XWraps() {
        says("ACTS with x (an int that wraps)");
        WheelSkips x = withBodies(8);
        due("turns of 1, just within", x.act(1, 0, MAX - 4), MAX);
        due("turns of 1, just beyond", x.act(1, 0, MAX - 3), MIN);
        due("turns of 0 with MAX", x.act(0, 0, MAX), MAX);
        due("turns of 7 with MIN", x.act(7, 0, MIN), 13);
        due("shows of 0, just within", x.act(0, 1, 1073741823), MAX - 1);
        due("shows of 0, just beyond", x.act(0, 1, 1073741824), MIN);
        due("shows of 2 with MIN", x.act(2, 1, MIN), -4);
        due("shows of 2, the least int", x.act(2, 1, 1073741822), MIN);
        due("waits of 3 with MAX", x.act(3, 2, MAX), (MAX - 3) * 3);
        due("tells of 0 with MIN", x.act(0, 3, MIN), -1);
    }

    // ------------------------------------------------------------------ 34 trace

    static void p34AsManyAsRan() {
        says("THE TRACE's i-th body. BAD.");
        says("THE TRACE: numbers of the bodies that ran in the latest act(), as they began; the first 24 are kept.");
        WheelSkips x = withBodies(6);
        due("no act yet", x.trace(0), BAD);
        x.act(5, 3, 1);
        int[] numbers = {61, 50, 2, 10, 20, 1, 60, 11, 20, 1};
        due("count(6)", x.count(6), numbers.length);
        for (int i = 0; i < numbers.length; i++) due("trace(" + i + ")", x.trace(i), numbers[i]);
        due("trace(10)", x.trace(10), BAD);
        x.act(0, 0, 1);
        due("the latest: trace(0)", x.trace(0), 1);
        due("trace(1)", x.trace(1), BAD);
        refusedFor(RICH, "trace", BAD, WheelSkips::trace, -1, 10, 23, 24, 25, MIN, MAX);
    }

    // ------------------------------------------------------------------ 35 keep

    static void p35ShelvesFrom0To5() {
        says("A SHELF holds nothing (body -1), or a BODY: 1. BAD.");
        WheelSkips x = withBodies(3);
        due("keep(0, 2)", x.keep(0, 2), 1);
        due("keep(5, 1)", x.keep(5, 1), 1);
        due("taken(0, 0)", x.taken(0, 0), 2);
        due("taken(5, 0)", x.taken(5, 0), 1);
        refusedFor(RICH, "keep a body on", BAD, (y, s) -> y.keep(s, 0), -1, 6, MIN, MAX);
        refusedFor(RICH, "keep nothing on", BAD, (y, s) -> y.keep(s, -1), -1, 6);
    }

    static void p35NothingOrABodyThatThereIs() {
        says("A SHELF holds nothing (body -1), or a BODY");
        WheelSkips x = withBodies(3);
        due("keep(1, 0)", x.keep(1, 0), 1);
        due("keep(1, 2)", x.keep(1, 2), 1);
        due("keep(1, -1)", x.keep(1, -1), 1);
        due("taken(1, 0)", x.taken(1, 0), EMPTY);
        due("the 50th", withBodies(50).keep(1, 49), 1);
        due("a 51st", withBodies(50).keep(1, 50), BAD);
        refusedFor(RICH, "keep on a row", BAD, (y, b) -> y.keep(2, b), -2, 3, 50, MIN, MAX);
        refusedFor(RICH, "keep on a body", BAD, (y, b) -> y.keep(1, b), -2, 3);
    }

    // ------------------------------------------------------------------ 36 row

    static void p36ShelvesFrom0To5() {
        says("A SHELF holds a ROW: 1. BAD (sort, n above 60); -14.");
        WheelSkips x = new WheelSkips();
        due("row(0, 0, 1)", x.row(0, 0, 1), 1);
        due("row(5, 4, 1)", x.row(5, 4, 1), 1);
        due("put(5, 0, 1)", x.put(5, 0, 1), 1);
        refusedFor(RICH, "row on", BAD, (y, s) -> y.row(s, 1, 2), -1, 6, MIN, MAX);
    }

    static void p36SortsFrom0To4() {
        says("a ROW: of 0 bytes, 1 shorts, 2 ints, 3 longs, 4 booleans");
        long v = 0x7FFFFFFF_FFFF_FFFFL - 0x7F7E;
        long[] want = {(byte) v, (short) v, (int) v, v, 1};
        WheelSkips x = new WheelSkips();
        for (int sort = 0; sort <= 4; sort++) {
            due("row(0, " + sort + ", 1)", x.row(0, sort, 1), 1);
            due("put", x.put(0, 0, v), 1);
            due("element of sort " + sort, x.element(0, 0), want[sort]);
        }
        refusedFor(RICH, "row of sort", BAD, (y, sort) -> y.row(2, sort, 2), -1, 5, MIN, MAX);
    }

    static void p36From0To60Elements() {
        says("of 0 .. 60 elements, 0 at first (false)");
        says("-14 a size below 0");
        for (int sort = 0; sort <= 4; sort++) {
            int s = sort;
            WheelSkips x = new WheelSkips();
            due("row of 0", x.row(3, s, 0), 1);
            due("put", x.put(3, 0, 1), PLACE);
            due("row of 60", x.row(3, s, 60), 1);
            due("0 at first", x.element(3, 59), 0);
            due("put", x.put(3, 59, 1), 1);
            due("put", x.put(3, 60, 1), PLACE);
            due("a new one", x.row(3, s, 60), 1);
            due("0 at first", x.element(3, 59), 0);
            refusedFor(RICH, "row of", BAD, (y, n) -> y.row(2, s, n), 61, MAX);
            refusedFor(RICH, "row of", SIZE, (y, n) -> y.row(2, s, n), -1, MIN);
        }
    }

    static void p36BadIsNamedAheadOfTheSize() {
        says("BAD (sort, n above 60); -14.");
        refused(RICH, "row(2, 5, -1)", BAD, x -> x.row(2, 5, -1));
        refused(RICH, "row(2, -1, -1)", BAD, x -> x.row(2, -1, -1));
        refused(RICH, "row(6, 1, -1)", BAD, x -> x.row(6, 1, -1));
        refused(RICH, "row(1, 1, -1), on a body", SIZE, x -> x.row(1, 1, -1));
        refused(RICH, "row(0, 1, -1), on nothing", SIZE, x -> x.row(0, 1, -1));
    }

    // ------------------------------------------------------------------ 37 put

    static void p37PlacesThatThereAre() {
        says("Element i of a ROW becomes v: 1. BAD, -11, -12, -13.");
        WheelSkips x = rich();
        due("put(2, 0, 5)", x.put(2, 0, 5), 1);
        due("put(2, 4, 6)", x.put(2, 4, 6), 1);
        due("element(2, 0)", x.element(2, 0), 5);
        due("element(2, 4)", x.element(2, 4), 6);
        refusedFor(RICH, "put at", PLACE, (y, i) -> y.put(2, i, 77), -1, 5, 59, 60, MIN, MAX);
        refusedFor(RICH, "put in longs at", PLACE, (y, i) -> y.put(3, i, 77), -1, 3);
    }

    static void p37ShelvesFrom0To5() {
        says("becomes v: 1. BAD, -11, -12, -13.");
        due("put(5, 3, 1)", rich().put(5, 3, 1), 1);
        refusedFor(RICH, "put on", BAD, (y, s) -> y.put(s, 0, 77), -1, 6, MIN, MAX);
        refusedFor(RICH, "put on nothing at", EMPTY, (y, i) -> y.put(0, i, 77), 0, -1, 60);
        refusedFor(RICH, "put on a body at", KIND, (y, i) -> y.put(1, i, 77), 0, -1, 60);
    }

    static void p37ItsLowestBits() {
        says("what is put in keeps its lowest bits (a boolean: whether it is not 0; 1 or 0)");
        long big = 1L << 31;
        kept(0, 127, 127, 128, -128, 255, -1, 256, 0, -128, -128, -129, 127, 1L << 40, 0);
        kept(1, 32767, 32767, 32768, -32768, 65535, -1, 65536, 0, -32768, -32768, -32769, 32767, 1L << 40, 0);
        kept(2, big - 1, MAX, big, MIN, 2 * big - 1, -1, 2 * big, 0, -big, MIN, -big - 1, MAX, 1L << 40, 0);
        kept(3, Long.MAX_VALUE, Long.MAX_VALUE, Long.MIN_VALUE, Long.MIN_VALUE, 2 * big, 2 * big, -1, -1);
        kept(4, 0, 0, 1, 1, -1, 1, 2, 1, 256, 1, 2 * big, 1, Long.MIN_VALUE, 1, 0, 0);
    }

    /** By twos what is put in and what is there then. */
    private static void kept(int sort, long... twos) {
        WheelSkips x = new WheelSkips();
        x.row(2, sort, 3);
        for (int i = 0; i + 1 < twos.length; i += 2) {
            due("put(2, 1, " + twos[i] + ")", x.put(2, 1, twos[i]), 1);
            due("sort " + sort + " for " + twos[i], x.element(2, 1), twos[i + 1]);
            due("ahead of it", x.element(2, 0), 0);
            due("behind it", x.element(2, 2), 0);
        }
    }

    // ------------------------------------------------------------------ 38 element

    static void p38PlacesThatThereAre() {
        says("Element i of a ROW; Long.MIN_VALUE: BAD, -11 to -13.");
        WheelSkips x = rich();
        due("element(2, 0)", x.element(2, 0), 12);
        due("element(2, 4)", x.element(2, 4), 13);
        due("element(3, 2)", x.element(3, 2), -7);
        refusedFor(RICH, "element", NONE, (y, i) -> y.element(2, i), -1, 5, 59, 60, MIN, MAX);
        refusedFor(RICH, "element of longs", NONE, (y, i) -> y.element(3, i), -1, 3);
    }

    static void p38ShelvesFrom0To5() {
        says("Long.MIN_VALUE: BAD, -11 to -13.");
        due("element(5, 3)", rich().element(5, 3), 9);
        refusedFor(RICH, "element on", NONE, (y, s) -> y.element(s, 0), -1, 6, MIN, MAX);
        refusedFor(RICH, "element of nothing", NONE, (y, i) -> y.element(0, i), 0, -1);
        refusedFor(RICH, "element of a body", NONE, (y, i) -> y.element(1, i), 0, -1);
    }

    // ------------------------------------------------------------------ 39 shift

    static void p39PartsThatThereAre() {
        says("n elements of a ROW from i on come to another one (or the same) from j on, as they all were before: n.");
        says("-13 (n below 0, too)");
        due("all of 4 to the first", rich().shift(5, 0, 2, 0, 4), 4);
        due("all of 4 to the last", rich().shift(5, 0, 2, 1, 4), 4);
        due("the last of 5 to the last of 4", rich().shift(2, 4, 5, 3, 1), 1);
        due("none from the end to the end", rich().shift(2, 5, 5, 4, 0), 0);
        refusedFor(RICH, "shift of", PLACE, (x, n) -> x.shift(2, 0, 5, 0, n), -1, 5, 6, 60, MIN, MAX);
        refusedFor(RICH, "shift of", PLACE, (x, n) -> x.shift(5, 0, 2, 0, n), -1, 5);
        refusedFor(RICH, "shift to", PLACE, (x, j) -> x.shift(5, 0, 2, j, 4), -1, 2, 5, MIN, MAX);
        refusedFor(RICH, "shift from", PLACE, (x, i) -> x.shift(2, i, 5, 0, 4), -1, 2, 5, MIN, MAX);
        refusedFor(RICH, "shift of none from", PLACE, (x, i) -> x.shift(2, i, 5, 0, 0), -1, 6);
        refusedFor(RICH, "shift of none to", PLACE, (x, j) -> x.shift(2, 0, 5, j, 0), -1, 5);
        refusedFor(RICH, "shift of below 0 of", PLACE, (x, n) -> x.shift(2, 2, 2, 2, n), -1, -2);
        refused(RICH, "shift(2, MAX, 5, MAX, MAX)", PLACE, x -> x.shift(2, MAX, 5, MAX, MAX));
    }

    static void p39AsTheyAllWereBefore() {
        says("as they all were before");
        shifted(0, 1, 4, 1, 1, 2, 3, 4);
        shifted(1, 0, 4, 2, 3, 4, 5, 5);
        shifted(0, 2, 3, 1, 2, 1, 2, 3);
        shifted(2, 0, 3, 3, 4, 5, 4, 5);
        shifted(0, 4, 1, 1, 2, 3, 4, 1);
        shifted(4, 0, 1, 5, 2, 3, 4, 5);
        shifted(0, 0, 5, 1, 2, 3, 4, 5);
        shifted(3, 1, 0, 1, 2, 3, 4, 5);
    }

    /** The elements of a row of 1 .. 5 when n of them have come from i to j. */
    private static void shifted(int i, int j, int n, int... want) {
        WheelSkips x = new WheelSkips();
        x.row(1, 2, 5);
        for (int k = 0; k < 5; k++) x.put(1, k, k + 1);
        due("shift(1, " + i + ", 1, " + j + ", " + n + ")", x.shift(1, i, 1, j, n), n);
        for (int k = 0; k < 5; k++) due("element " + k, x.element(1, k), want[k]);
    }

    static void p39ShelvesFrom0To5() {
        says("BAD, -11 (either), -12 (no ROWS, or of unlike sorts), -13");
        due("shelf 5", rich().shift(5, 0, 5, 1, 2), 2);
        refusedFor(RICH, "shift from shelf", BAD, (x, s) -> x.shift(s, 0, 2, 0, 1), -1, 6, MIN, MAX);
        refusedFor(RICH, "shift to shelf", BAD, (x, s) -> x.shift(2, 0, s, 0, 1), -1, 6, MIN, MAX);
        refusedFor(RICH, "shift of nothing to shelf", BAD, (x, s) -> x.shift(0, 0, s, 0, 1), -1, 6);
    }

    static void p39NothingOnEither() {
        says("-11 (either)");
        refused(RICH, "from nothing", EMPTY, x -> x.shift(0, 0, 2, 0, 1));
        refused(RICH, "to nothing", EMPTY, x -> x.shift(2, 0, 0, 0, 1));
        refused(RICH, "from nothing to nothing", EMPTY, x -> x.shift(0, 0, 0, 0, 0));
        refused(RICH, "from nothing to a body", EMPTY, x -> x.shift(0, 0, 1, 0, 1));
        refused(RICH, "from a body to nothing", EMPTY, x -> x.shift(1, 0, 0, 0, 1));
        refused(RICH, "to nothing, places not there", EMPTY, x -> x.shift(2, -1, 0, -1, -1));
    }

    static void p39NoRowsOrOfUnlikeSorts() {
        says("-12 (no ROWS, or of unlike sorts)");
        refused(RICH, "from a body", KIND, x -> x.shift(1, 0, 2, 0, 1));
        refused(RICH, "to a body", KIND, x -> x.shift(2, 0, 1, 0, 1));
        refused(RICH, "from a body to it", KIND, x -> x.shift(1, 0, 1, 0, 0));
        refused(RICH, "shorts to longs", KIND, x -> x.shift(2, 0, 3, 0, 1));
        refused(RICH, "longs to booleans", KIND, x -> x.shift(3, 0, 4, 0, 1));
        refused(RICH, "booleans to shorts, places not there", KIND, x -> x.shift(4, -1, 2, -1, -1));
        for (int a = 0; a <= 4; a++) {
            for (int b = 0; b <= 4; b++) {
                WheelSkips x = new WheelSkips();
                x.row(0, a, 2);
                x.row(1, b, 2);
                due("sort " + a + " to " + b, x.shift(0, 0, 1, 0, 2), a == b ? 2 : KIND);
            }
        }
    }

    // ------------------------------------------------------------------ 40 taken

    static void p40KindsFrom0To7() {
        says("What a SHELF holds, taken for a BODY of KIND k (0 .. 7), or under it: its KIND. BAD, -11, -12.");
        WheelSkips x = withBodies(8);
        x.keep(0, 7);
        due("taken(0, 7)", x.taken(0, 7), 7);
        due("taken(0, 0)", x.taken(0, 0), 7);
        refusedFor(RICH, "taken for", BAD, (y, k) -> y.taken(1, k), -1, 8, MIN, MAX);
        refusedFor(RICH, "nothing taken for", BAD, (y, k) -> y.taken(0, k), -1, 8);
        refusedFor(RICH, "nothing taken for", EMPTY, (y, k) -> y.taken(0, k), 0, 7);
        refusedFor(RICH, "a row taken for", KIND, (y, k) -> y.taken(2, k), 0, 7);
    }

    static void p40KindsAboveAndBelow() {
        says("1 WHOLE under TOOTH; 2 SKIP under TOOTH; 3 STICK under SKIP; 4 FROST under WHOLE; 5 LATE under FROST; 6 TOLD under TOOTH; 7 GOLD under TOLD.");
        int[] above = {-1, 0, 0, 2, 1, 4, 0, 6};
        for (int kind = 0; kind < 8; kind++) {
            WheelSkips x = withBodies(8);
            x.keep(3, kind);
            for (int k = 0; k < 8; k++) {
                boolean under = false;
                for (int up = kind; up >= 0; up = above[up]) under |= up == k;
                due("a body of " + kind + " for one of " + k, x.taken(3, k), under ? kind : KIND);
            }
        }
        refusedFor(RICH, "a stick taken for", KIND, (y, k) -> y.taken(1, k), 1, 4, 7);
    }

    static void p40ShelvesFrom0To5() {
        says("BAD, -11, -12.");
        WheelSkips x = withBodies(1);
        x.keep(5, 0);
        due("taken(5, 0)", x.taken(5, 0), 0);
        refusedFor(RICH, "taken from", BAD, (y, s) -> y.taken(s, 0), -1, 6, MIN, MAX);
    }

    // ------------------------------------------------------------------ 41 count

    static void p41WhatIs0To6() {
        says("How many: 0 WHEELS, 1 THE NIGHT, 2 RECORDS, 3 bytes on THE TAPE, 4 changes that may be UNDONE, 5 BODIES, 6 bodies that ran in the latest act() (all, kept or not). BAD.");
        WheelSkips x = rich();
        int[] want = {2, 13, 3, 3, 3, 3, 10};
        for (int what = 0; what <= 6; what++) due("count(" + what + ")", x.count(what), want[what]);
        refusedFor(RICH, "count", BAD, WheelSkips::count, -1, 7, MIN, MAX);
    }

    static void p41TheFullest() {
        says("4 changes that may be UNDONE");
        due("wheels", withFourWheels().count(0), 4);
        due("the latest night", atNight(1000000).count(1), 1000000);
        due("records", withRecords(40).count(2), 40);
        due("bytes", withFullTape().count(3), 120);
        due("bodies", withBodies(50).count(5), 50);
        WheelSkips x = with("ww");
        for (int i = 1; i <= 41; i++) x.broke(0, i);
        due("changes", x.count(4), 40);
        x.undo();
        due("one less", x.count(4), 39);
        x.redo();
        due("and again", x.count(4), 40);
    }
}
