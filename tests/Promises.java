/** Each promise of the document with answers worked out by hand: ordinary calls, edges, wrong ones. */
public final class Promises {
    private static final int BAD = -1, NOT = -2, FULL = -3, STATE = -5, VOID = -2000000000;
    private static final int MIN = Integer.MIN_VALUE, MAX = Integer.MAX_VALUE;

    private static int wrong;
    private static int held;
    private static String promise = "";

    private static void due(String call, long got, long want) {
        held++;
        if (got == want) return;
        wrong++;
        System.out.println(promise + ": " + call + " answered " + got + ", due is " + want);
    }

    /** Every one of the answers is due. */
    private static void dueAll(String call, int want, int... got) {
        for (int i = 0; i < got.length; i++) due(call + " [" + i + "]", got[i], want);
    }

    private static int feed(WheelSkips x, String text) {
        int answer = 0;
        for (int i = 0; i < text.length(); i++) answer = x.feed(text.charAt(i));
        return answer;
    }

    private static int wheel(WheelSkips x, String text) {
        feed(x, text);
        return x.wheel();
    }

    private static int law(WheelSkips x, String text) {
        feed(x, text);
        return x.law();
    }

    private static WheelSkips with(String... wheels) {
        WheelSkips x = new WheelSkips();
        for (String text : wheels) wheel(x, text);
        return x;
    }

    private static String times(int n, String text) {
        StringBuilder all = new StringBuilder();
        for (int i = 0; i < n; i++) all.append(text);
        return all.toString();
    }

    /** Places of a wheel on the next nights, a digit each. */
    private static void path(WheelSkips x, int wheel, String places) {
        for (int i = 0; i < places.length(); i++) {
            due("shows(" + wheel + ", " + (i + 1) + ")", x.shows(wheel, i + 1), places.charAt(i) - '0');
        }
    }

    public static void main(String[] args) {
        newObject();
        feeding();
        wheels();
        faultsOfLaw();
        laws();
        draws();
        setting();
        breaking();
        teeth();
        asked();
        nightsGoOn();
        latestNight();
        laying();
        showing();
        pushes();
        turningTheNext();
        days();
        often();
        never();
        meets();
        twoTogether();
        roundAgain();
        truths();
        nearest();
        recording();
        recordsFromRows();
        clearing();
        judging();
        fitting();
        surely();
        whenBroken();
        watching();
        images();
        undoing();
        bodies();
        acts();
        traces();
        keeping();
        rows();
        putting();
        elements();
        shifting();
        taking();
        counting();
        System.out.println(held + " answers looked at, " + wrong + " wrong");
        if (wrong != 0) System.exit(1);
    }

    private static void newObject() {
        promise = "1 A new object";
        WheelSkips x = new WheelSkips();
        for (int what = 0; what <= 6; what++) due("count(" + what + ")", x.count(what), 0);
        due("day()", x.day(), STATE);
        due("trace(0)", x.trace(0), BAD);
        dueAll("nothing on a shelf", -11, x.put(0, 0, 1), x.put(5, 0, 1), x.taken(3, 0));
        dueAll("nothing kept", STATE, x.back(), x.undo(), x.redo());
        due("WEEK", x.set(0, 3), 7);
        due("SEED", x.set(1, 3), 0);
        WheelSkips y = new WheelSkips();
        feed(y, "ww");
        due("objects have nothing in common", x.count(3), 0);
        due("WEEK of another", y.set(0, 7), 7);
    }

    private static void feeding() {
        promise = "2 feed";
        WheelSkips x = new WheelSkips();
        dueAll("feed of no byte", BAD, x.feed(-1), x.feed(256), x.feed(MIN), x.feed(MAX), x.feed(-119));
        due("feed(0)", x.feed(0), 1);
        due("feed(255)", x.feed(255), 2);
        for (int i = 3; i <= 120; i++) due("feed", x.feed(i), i);
        due("the 121st", x.feed(119), FULL);
        due("BAD is named first", x.feed(256), BAD);
        due("count(3)", x.count(3), 120);
        due("wheel() of byte 0", x.wheel(), -100);
        due("feed", x.feed(119), 1);
    }

    private static void wheels() {
        promise = "3 wheel";
        WheelSkips x = new WheelSkips();
        due("an empty tape", x.wheel(), -100);
        due("one tooth", wheel(x, "w"), -101);
        due("the tape is empty then", x.count(3), 0);
        String none = " 0:WSFBxvtr`{/";
        for (int i = 0; i < none.length(); i++) due("no tooth", wheel(x, "ws" + none.charAt(i) + "w"), -102);
        due("the first of two", wheel(x, "w??"), -101);
        due("byte 255", wheel(x, "ww" + (char) 255), -102);
        due("41 teeth", wheel(x, times(41, "w")), -140);
        due("41 teeth, a wrong byte first", wheel(x, times(39, "w") + "x" + times(5, "w")), -139);
        due("41 teeth, a wrong byte behind", wheel(x, times(45, "w") + "x"), -140);
        due("no wheel yet", x.count(0), 0);
        String all = "wsfb123456789";
        due("all letters", wheel(x, all), 0);
        for (int i = 0; i < all.length(); i++) due("of", x.of(0, 100 + i), all.charAt(i));
        due("the tape is empty then", x.count(3), 0);
        due("two teeth", wheel(x, "ss"), 1);
        due("40 teeth", wheel(x, times(40, "9")), 2);
        due("of(2, 0)", x.of(2, 0), 40);
        due("of(2, 139)", x.of(2, 139), '9');
        due("the fourth", wheel(x, "ww"), 3);
        due("a fifth", wheel(x, "www"), FULL);
        due("it stays", x.count(3), 3);
        due("again", x.wheel(), FULL);
        due("count(0)", x.count(0), 4);
        due("each at place 0", x.of(3, 1) + x.of(3, 2) + x.of(3, 3), 0);
    }

    private static void faultsOfLaw() {
        promise = "4 law, FAULT";
        String[] right = {"1", "t", "p", "k", "z", "0000", "9999", "1;2", "1?2", "1?2;3?4;5", "(t)", "!t", "-t",
            "((((((t))))))", "!!!!!!t", "------t", "(!-(!-t))", "1|2|3", "1&2&3", "1<2", "1=2", "1>2", "1+2-3",
            "1*2/3%4", "(1<2)<3", "1?((((((2))))))", "((((((1))))))?2;((((((3))))))", "((((((1))))))+((((((2))))))", "!!!!!!1+!!!!!!2", "1--1", "1-!1",
            "t*t+p*p-k*k<z%3&1|0", times(59, "t+") + "t", times(59, "1;") + "12"};
        for (String text : right) due(text, law(new WheelSkips(), text), 1);
        String[] faults = {"0:x", "2:t?", "2:t+", "2:t;", "2:(t", "1:(", "1:!", "1:-", "3:t<t<t",
            "3:1=2=3", "3:1>2<3", "3:t?t?t", "4:12345", "4:00000", "8:1+((2*30", "8:1?((((((((2", "8:0;(((((((2", "2:t|", "2:t&", "2:t<", "2:t=", "2:t>", "2:t-", "2:t*", "2:t/", "2:t%",
            "2:t&&t", "2:t<<t", "2:t//t", "3:(t|)", "3:(t&)", "3:(t<)", "3:(t+)", "3:(t*)", "0:?t", "0:;", "2:t;;t", "1:t)", "1:t(", "1:tt",
            "1:t1", "1:1t", "6:(((((((t)))))))", "6:!!!!!!!t", "6:-------t", "6:(!-(!-(t)))", "6:(!-(!-!t))",
            "2:(t?t)", "2:(t;t)", "0: t", "1:t t", "2:t+*t", "2:t||t", "3:t=!", "0:)", "0:T", "0:+1", "0:*1", "1:!)",
            "1:()", "1:t" + (char) 0, "1:t" + (char) 255, "3:t+(", "1:t!t", "4:(1+2", "2:t??t", "4:t?t;"};
        for (String row : faults) {
            int cut = row.indexOf(':');
            int at = Integer.parseInt(row.substring(0, cut));
            String text = row.substring(cut + 1);
            due(text, law(new WheelSkips(), text), -100 - at);
        }
        due("an empty tape", new WheelSkips().law(), -100);
        due("too long a nest far in", law(new WheelSkips(), "1+((((((1))))))*(((((((1)))))))"), -122);
        WheelSkips x = with("ff");
        due("a law", law(x, "1"), 1);
        due("the tape is empty then", x.count(3), 0);
        due("cold", x.shows(0, 1), 0);
        due("a fault", law(x, "0x"), -101);
        due("the tape is empty then", x.count(3), 0);
        due("the law stays", x.shows(0, 1), 0);
        due("another law", law(x, "0"), 1);
        due("not cold", x.shows(0, 1), 1);
        due("a short one behind a long one", law(x, "0?1;0?1;1") + law(x, "0?0"), 2);
        due("not cold", x.shows(0, 1), 1);
    }

    /** Whether it is cold in the first night at place 0 of wheel 0. */
    private static boolean isCold(String text) {
        WheelSkips x = with("ff");
        due("law " + text, law(x, text), 1);
        return x.shows(0, 1) == 0;
    }

    private static void laws() {
        promise = "4 law, what it gives";
        String[] cold = {"1", "2", "-1", "0?1;1", "1?1;0", "0?0;0?0;7", "5?5", "-1?1;0", "2+3*4=14", "2*3+4=10",
            "10-4-3=3", "100/10/5=2", "100%30%7=3", "7/2=3", "(0-7)/2=-3", "-7%3=-1", "7%-3=1", "7/-2=-3", "5/0=0",
            "5%0=0", "1|0&0", "(2|0)=1", "(0|3)=1", "(0|0)=0", "(2&3)=1", "(2&0)=0", "(0&2)=0", "2|0=1",
            "!5=0", "!0=1", "!!7=1", "--5=5", "-5<0", "1<2", "2>1", "-2<-1", "0003=3", "9999=9999", "!(1<1)",
            "!(1>1)", "!(2<1)", "!(1>2)", "!(1=2)", "2-1", "8-3*2=2", "(8-3)*2=10", "!0+1=2", "-2*3=-6",
            "t=1", "p=0", "k=0", "t", "!p", "!k", "1;0", "1?1;0?0;0", "(1<2)+(1<2)=2", "(1=1)+(1=1)=2", "(2>1)+(2>1)=2",
            "(2|2)+(2|2)=2", "(2&2)+(2&2)=2", "!0+!0=2", times(58, "1+") + "1-58",
            times(6, "0|1&0<0+1*(") + "1" + times(6, ")")};
        for (String text : cold) if (!isCold(text)) due(text, 0, 1);
        String[] mild = {"0", "0?1", "0?1;0?1", "1?0;1", "2-2;1", "0;1", "(1|0)&0", "1<1", "1>1", "2<1", "1>2", "1=2",
            "p", "k", "t-1", "1?0;1?1", "!1", "t=2", "0?5;0", "5%5", "3/4", times(58, "1+") + "1-59",
            times(6, "0|1&0<0+1*(") + "0" + times(6, ")")};
        for (String text : mild) if (isCold(text)) due(text, 1, 0);
        int product = 9999 * 9999 * 9999 * 9999;
        due("a wrapped product", isCold("9999*9999*9999*9999<0") ? 1 : 0, product < 0 ? 1 : 0);
        due("2 ** 31 wraps", isCold("8192*8192*32<0") ? 1 : 0, 1);
        due("2 ** 32 wraps", isCold("8192*8192*64=0") ? 1 : 0, 1);
        due("the least int by -1", isCold("8192*8192*32/-1=8192*8192*32") ? 1 : 0, 1);
        due("the least int by -1, left", isCold("8192*8192*32%-1=0") ? 1 : 0, 1);
        due("without a text never", with("ff").shows(0, 1), 1);
        WheelSkips x = with("ff", "fff");
        law(x, "k=1");
        path(x, 0, "10101");
        due("k of wheel 1", x.shows(1, 9), 0);
        law(x, "k=0");
        due("k of wheel 0", x.shows(0, 9), 0);
        x.lay(0, 1);
        law(x, "p=1&k=0");
        due("p now", x.shows(0, 3), 1);
        law(x, "t<3");
        path(x, 0, "110101");
        path(x, 1, "001122");
    }

    private static void draws() {
        promise = "4 law, z";
        for (int t = 0; t < 12; t++) {
            for (int seed : new int[] {0, 1, -1103515245, 77777777, MIN, MAX}) {
                WheelSkips x = with("ff");
                x.set(1, seed);
                if (t > 0) x.on(t);
                x.lay(0, 0);
                int z = (((t + 1) * 1103515245 + seed) >>> 8) % 10;
                for (int v = 0; v < 10; v++) {
                    law(x, "z=" + v);
                    due("z=" + v + " seed " + seed + " night " + (t + 1), x.shows(0, 1), v == z ? 0 : 1);
                }
            }
        }
        WheelSkips x = with("ff");
        law(x, "z=6");
        due("1103515245 / 256 ends in 6", x.shows(0, 1), 0);
        x.on(1);
        due("so it stays", x.of(0, 1), 0);
        law(x, "z=2");
        due("2207030490 / 256 ends in 2, though the int is below 0", x.shows(0, 1), 0);
    }

    private static void setting() {
        promise = "5 set";
        WheelSkips x = with("wwwwwwwwww");
        dueAll("set that is wrong", VOID, x.set(0, 0), x.set(0, 10), x.set(0, MIN), x.set(0, MAX), x.set(-1, 3),
            x.set(2, 3), x.set(MAX, 3), x.set(MIN, 3));
        due("set(0, 1)", x.set(0, 1), 7);
        due("set(0, 9)", x.set(0, 9), 1);
        due("set(0, 3)", x.set(0, 3), 9);
        x.lay(0, 8);
        due("day()", x.day(), 2);
        due("set(1, MIN)", x.set(1, MIN), 0);
        due("set(1, MAX)", x.set(1, MAX), MIN);
        due("set(1, -2000000000)", x.set(1, VOID), MAX);
        due("set(1, 0)", x.set(1, 0), VOID);
        due("no changes", x.count(4), 0);
    }

    private static void breaking() {
        promise = "6 broke";
        WheelSkips x = with("bbbbb", "bb");
        dueAll("broke that is wrong", BAD, x.broke(2, 5), x.broke(-1, 5), x.broke(0, -1), x.broke(0, 10000),
            x.broke(MAX, 5), x.broke(MIN, 5), x.broke(0, MIN), x.broke(0, MAX));
        due("no changes", x.count(4), 0);
        due("broke(0, 3)", x.broke(0, 3), 0);
        due("broke(1, 9999)", x.broke(1, 9999), 0);
        due("of(0, 3)", x.of(0, 3), 3);
        due("of(1, 3)", x.of(1, 3), 9999);
        due("broke(1, 0)", x.broke(1, 0), 9999);
        path(x, 0, "124130");
        due("count(4)", x.count(4), 3);
        due("the same again", x.broke(0, 3), 3);
        due("and the same", x.broke(1, 0), 0);
        due("are no changes", x.count(4), 3);
        due("of(0, 3)", x.of(0, 3), 3);
        due("without wheels", new WheelSkips().broke(0, 0), BAD);
    }

    private static void teeth() {
        promise = "7 tooth";
        WheelSkips x = with("ww", "sss");
        dueAll("tooth that is wrong", BAD, x.tooth(2, 0, 'w'), x.tooth(-1, 0, 'w'), x.tooth(0, 2, 'w'),
            x.tooth(0, -1, 'w'), x.tooth(1, 3, 'w'), x.tooth(0, MAX, 'w'), x.tooth(0, MIN, 'w'), x.tooth(MAX, 0, 'w'),
            x.tooth(0, 0, '0'), x.tooth(0, 0, ':'), x.tooth(0, 0, 'x'), x.tooth(0, 0, 0), x.tooth(0, 0, -1),
            x.tooth(0, 0, 'W'), x.tooth(0, 0, 256 + 'w'), x.tooth(0, 0, MIN), x.tooth(0, 0, MAX));
        due("no changes", x.count(4), 0);
        String all = "wsfb123456789";
        int before = 's';
        for (int i = 0; i < all.length(); i++) {
            due("tooth", x.tooth(1, 2, all.charAt(i)), before);
            before = all.charAt(i);
            due("of", x.of(1, 102), before);
        }
        due("its neighbour", x.of(1, 101), 's');
        due("count(4)", x.count(4), 13);
        due("the same again", x.tooth(1, 2, '9'), '9');
        due("is no change", x.count(4), 13);
        x.on(1);
        x.tooth(0, 1, '5');
        x.on(3);
        due("waits", x.of(0, 2), 3);
        x.tooth(0, 1, '2');
        due("waits stay", x.of(0, 2), 3);
        x.on(1);
        due("3 is not below 2", 10 * x.of(0, 1) + x.of(0, 2), 0);
        x.tooth(0, 0, '4');
        x.on(2);
        x.tooth(0, 0, 'w');
        x.on(1);
        due("a whole tooth leaves the waits", 10 * x.of(0, 1) + x.of(0, 2), 12);
    }

    private static void asked() {
        promise = "8 of";
        WheelSkips x = with("w2b", "ws");
        x.broke(0, 77);
        x.on(2);
        due("of(0, 0)", x.of(0, 0), 3);
        due("of(0, 1)", x.of(0, 1), 1);
        due("of(0, 2)", x.of(0, 2), 1);
        due("of(0, 3)", x.of(0, 3), 77);
        due("of(0, 100)", x.of(0, 100), 'w');
        due("of(0, 102)", x.of(0, 102), 'b');
        due("of(1, 101)", x.of(1, 101), 's');
        dueAll("of that is wrong", BAD, x.of(0, 4), x.of(0, -1), x.of(0, 99), x.of(0, 103), x.of(1, 102), x.of(2, 0),
            x.of(-1, 0), x.of(2, 100), x.of(0, MIN), x.of(0, MAX), x.of(MIN, 0), x.of(MAX, 0), x.of(0, 140), x.of(0, MIN + 100));
        due("without wheels", new WheelSkips().of(0, 0), BAD);
    }

    private static void nightsGoOn() {
        promise = "9 on";
        WheelSkips x = with("wws");
        dueAll("on that is wrong", BAD, x.on(0), x.on(-1), x.on(2001), x.on(MIN), x.on(MAX));
        due("on(1)", x.on(1), 1);
        due("on(1)", x.on(1), 2);
        due("at 2", x.of(0, 1), 2);
        due("on(2)", x.on(2), 4);
        due("1, then 2", x.of(0, 1), 2);
        due("on(2000)", x.on(2000), 2004);
        due("count(1)", x.count(1), 2004);
        WheelSkips y = new WheelSkips();
        due("without wheels t alone goes on", y.on(13), 13);
        wheel(y, "ww");
        due("a new wheel is at 0", y.of(0, 1), 0);
        due("on(1)", y.on(1), 14);
        due("of(0, 1)", y.of(0, 1), 1);
    }

    private static void latestNight() {
        promise = "9 on, FULL";
        WheelSkips x = with("ww");
        for (int i = 0; i < 499; i++) x.on(2000);
        due("on(1999)", x.on(1999), 999999);
        due("on(2)", x.on(2), FULL);
        due("BAD is named first", x.on(2001), BAD);
        due("nothing changed", 10 * x.count(1) + x.of(0, 1), 9999991);
        due("on(1)", x.on(1), 1000000);
        due("on(1)", x.on(1), FULL);
        due("in thought", x.shows(0, 1), 1);
    }

    private static void laying() {
        promise = "10 lay";
        WheelSkips x = with("w9", "www");
        x.on(4);
        due("waits", x.of(0, 2), 3);
        dueAll("lay that is wrong", BAD, x.lay(0, 2), x.lay(0, -1), x.lay(2, 0), x.lay(-1, 0), x.lay(1, 3), x.lay(0, MAX),
            x.lay(0, MIN), x.lay(MAX, 0), x.lay(MIN, 0));
        due("waits are as they were", x.of(0, 2), 3);
        due("lay(0, 1)", x.lay(0, 1), 1);
        due("waits 0", x.of(0, 2), 0);
        due("lay(0, 0)", x.lay(0, 0), 1);
        due("lay(1, 2)", x.lay(1, 2), 0);
        due("lay(1, 0)", x.lay(1, 0), 2);
        due("no change to be undone", x.count(4), 0);
        due("the night stays", x.count(1), 4);
    }

    private static void showing() {
        promise = "11 shows";
        WheelSkips x = with("www", "ww");
        dueAll("shows that is wrong", BAD, x.shows(2, 0), x.shows(-1, 0), x.shows(0, -1), x.shows(0, 20001),
            x.shows(0, MIN), x.shows(0, MAX), x.shows(MAX, 0), x.shows(MIN, 0));
        x.on(4);
        due("shows(0, 0)", x.shows(0, 0), 1);
        due("shows(1, 0)", x.shows(1, 0), 1);
        due("shows(0, 1)", x.shows(0, 1), 2);
        due("shows(1, 1)", x.shows(1, 1), 1);
        due("shows(1, 2)", x.shows(1, 2), 0);
        due("shows(0, 20000)", x.shows(0, 20000), (4 + 20000) % 3);
        due("shows(1, 20000)", x.shows(1, 20000), 20004 / 3 % 2);
        due("all is as before", 10 * x.count(1) + x.of(0, 1), 41);
    }

    private static void pushes() {
        promise = "9, 11 a push";
        path(with("wwww"), 0, "12301230");
        path(with("ssss"), 0, "20202020");
        path(with("sssss"), 0, "241302413");
        path(with("ss"), 0, "0000");
        path(with("ws"), 0, "1111");
        path(with("1w"), 0, "010010");
        path(with("2ww"), 0, "0012000120");
        path(with("www3"), 0, "1233330123333");
        path(with("9w"), 0, "0000000001000000000");
        WheelSkips x = with("www3");
        x.on(6);
        due("waits", x.of(0, 2), 3);
        x.on(1);
        due("waits 0", 10 * x.of(0, 1) + x.of(0, 2), 0);
        path(with("bbbb"), 0, "2020");
        WheelSkips y = with("bbbb");
        y.broke(0, 1);
        path(y, 0, "2020");
        y.broke(0, 2);
        path(y, 0, "1313");
        y.broke(0, 4);
        path(y, 0, "1231313");
        y.broke(0, 9999);
        path(y, 0, "12301230");
        path(with("fw"), 0, "1010");
        WheelSkips z = with("fww");
        law(z, "t%3");
        path(z, 0, "001201201");
    }

    private static void turningTheNext() {
        promise = "9, 11 the next wheel";
        WheelSkips x = with("ww", "w1", "sss", "www");
        path(x, 0, "1010101010");
        path(x, 1, "011110011110");
        path(x, 2, "000002222221");
        path(x, 3, "000000000001");
        WheelSkips y = with("ssw", "ww");
        path(y, 0, "202020");
        path(y, 1, "011001");
        WheelSkips z = with("sw", "ww");
        path(z, 0, "0000");
        path(z, 1, "1010");
        WheelSkips late = with("ww");
        late.on(3);
        wheel(late, "wwww");
        path(late, 1, "112233");
        WheelSkips four = with("ww", "ww", "ww", "ww");
        path(four, 3, "000000011111111");
        due("shows(3, 16)", four.shows(3, 16), 0);
        due("shows(3, 8)", four.shows(3, 8), 1);
        due("shows(2, 4)", four.shows(2, 4), 1);
        due("shows(2, 8)", four.shows(2, 8), 0);
    }

    private static void days() {
        promise = "12 day";
        due("without wheels", new WheelSkips().day(), STATE);
        WheelSkips x = with(times(20, "w"), "www");
        due("day()", x.day(), 0);
        x.on(6);
        due("day()", x.day(), 6);
        x.on(1);
        due("day()", x.day(), 0);
        x.on(9);
        due("place 16 by 7", x.day(), 2);
        x.set(0, 9);
        due("by 9", x.day(), 7);
        x.set(0, 1);
        due("by 1", x.day(), 0);
    }

    private static void often() {
        promise = "13 often";
        WheelSkips e = new WheelSkips();
        due("without wheels", e.often(0, 1), STATE);
        dueAll("BAD is named first", BAD, e.often(7, 1), e.often(-1, 1), e.often(0, 0), e.often(0, 2001));
        WheelSkips x = with("wwwwwwwww", "ww");
        dueAll("often that is wrong", BAD, x.often(7, 5), x.often(-1, 5), x.often(0, 0), x.often(0, -1), x.often(0, 2001),
            x.often(MAX, 5), x.often(MIN, 5), x.often(0, MIN), x.often(0, MAX));
        due("today does not count", x.often(0, 6), 0);
        due("place 7", x.often(0, 7), 1);
        due("place 0", x.often(0, 9), 2);
        due("day 1: places 1, 8", x.often(1, 9), 2);
        due("day 6", x.often(6, 9), 1);
        due("2000 nights of day 6", x.often(6, 2000), 222);
        x.set(0, 2);
        due("day 1 by 2", x.often(1, 9), 4);
        due("day 2 by 2", x.often(2, 9), BAD);
        due("all is as before", x.count(1), 0);
    }

    private static void never() {
        promise = "14 never";
        WheelSkips e = new WheelSkips();
        dueAll("without wheels", STATE, e.never(1, 0), e.never(1, 1));
        dueAll("BAD is named first", BAD, e.never(0, 0), e.never(2001, 0), e.never(1, 2), e.never(1, -1));
        WheelSkips x = with("wswws");
        dueAll("never that is wrong", BAD, x.never(0, 0), x.never(-1, 0), x.never(2001, 0), x.never(5, 2), x.never(5, -1),
            x.never(MIN, 0), x.never(MAX, 0), x.never(5, MAX), x.never(5, MIN));
        due("0, 1 are shown", x.never(1, 0), 3);
        due("the first", x.never(1, 1), 2);
        due("0, 1, 3, 4 are shown", x.never(3, 0), 1);
        due("2 never", x.never(2000, 0), 1);
        due("the first", x.never(2000, 1), 2);
        x.lay(0, 2);
        due("2 is shown now: 2, 3, 4, 1", x.never(3, 0), 1);
        due("0 never", x.never(2000, 1), 0);
        WheelSkips y = with("www");
        due("none", y.never(2, 0), 0);
        due("no first", y.never(2, 1), NOT);
        due("none", y.never(2000, 1), NOT);
    }

    private static void meets() {
        promise = "15 meets";
        WheelSkips x = with("www", "ww");
        dueAll("meets that is wrong", BAD, x.meets(3, 5, 0), x.meets(102, 5, 0), x.meets(200, 5, 0), x.meets(-1, 5, 0),
            x.meets(-100, 5, 0), x.meets(0, 0, 0), x.meets(0, 2001, 0), x.meets(0, -1, 0), x.meets(0, 5, 2),
            x.meets(0, 5, -1), x.meets(MIN, 5, 0), x.meets(MAX, 5, 0), x.meets(0, MIN, 0), x.meets(0, MAX, 0));
        due("without wheels", new WheelSkips().meets(0, 5, 0), BAD);
        due("now does not count", x.meets(0, 2, 0), 0);
        due("nor the first", x.meets(0, 2, 1), NOT);
        due("wheel 0 at 0", x.meets(0, 9, 0), 3);
        due("first", x.meets(0, 9, 1), 3);
        due("wheel 0 at 1", x.meets(1, 9, 1), 1);
        due("wheel 0 at 1", x.meets(1, 2000, 0), 667);
        due("wheel 1 at 1", x.meets(101, 9, 0), 4);
        due("first", x.meets(101, 9, 1), 3);
        due("wheel 1 at 0", x.meets(100, 9, 0), 5);
        due("last night", x.meets(2, 2, 0), 1);
        x.on(2);
        due("nights from 1", x.meets(0, 9, 1), 1);
        due("all is as before", x.count(1), 2);
    }

    private static void twoTogether() {
        promise = "16 two";
        WheelSkips x = with("www", "ww", "ww");
        dueAll("two that is wrong", BAD, x.two(3, 0, 5), x.two(0, 3, 5), x.two(0, 102, 5), x.two(300, 0, 5),
            x.two(0, 300, 5), x.two(-1, 0, 5), x.two(0, -1, 5), x.two(0, 0, 0), x.two(0, 0, -1), x.two(0, 0, 20001),
            x.two(MAX, 0, 5), x.two(0, MIN, 5), x.two(0, 0, MAX), x.two(0, 0, MIN));
        due("without wheels", new WheelSkips().two(0, 0, 5), BAD);
        due("1 and 1", x.two(1, 101, 20), 4);
        due("the other way", x.two(101, 1, 20), 4);
        due("within 4", x.two(1, 101, 4), 4);
        due("not within 3", x.two(1, 101, 3), NOT);
        due("one and the same", x.two(1, 1, 20), 1);
        due("now does not count", x.two(0, 0, 20), 3);
        due("two places of one", x.two(1, 2, 20000), NOT);
        due("wheels 1, 2", x.two(101, 201, 20), 9);
        due("wheel 0 and 2", x.two(2, 201, 20), 8);
        due("all is as before", x.count(1), 0);
    }

    private static void roundAgain() {
        promise = "17 round";
        WheelSkips e = new WheelSkips();
        due("without wheels", e.round(1), 1);
        dueAll("round that is wrong", BAD, e.round(0), e.round(-1), e.round(20001), e.round(MIN), e.round(MAX));
        WheelSkips x = with("www");
        due("three", x.round(20000), 3);
        due("within 3", x.round(3), 3);
        due("not within 2", x.round(2), NOT);
        wheel(x, "ww");
        due("six", x.round(20000), 6);
        WheelSkips y = with("w9");
        due("eleven", y.round(20000), 11);
        y.on(1);
        due("waits count", y.round(20000), 11);
        y.on(1);
        due("waits count", y.round(20000), 11);
        WheelSkips z = with("wsww");
        z.lay(0, 2);
        due("2 never again", z.round(20000), NOT);
        due("standing still", with("sw").round(5), 1);
        due("as before", y.count(1), 2);
    }

    private static void truths() {
        promise = "18 truth";
        WheelSkips e = new WheelSkips();
        dueAll("without wheels", STATE, e.truth(0), e.truth(3939));
        WheelSkips x = with("www");
        for (WheelSkips y : new WheelSkips[] {e, x}) {
            dueAll("truth that is wrong", BAD, y.truth(-1), y.truth(40), y.truth(99), y.truth(140), y.truth(3940),
                y.truth(4000), y.truth(-100), y.truth(MIN), y.truth(MAX));
        }
        due("0 to 1", x.truth(1), 1);
        due("0 to 0", x.truth(0), 3);
        due("1 to 2", x.truth(102), 1);
        due("2 to 1", x.truth(201), 2);
        due("no place 3", x.truth(3), NOT);
        due("no place 3", x.truth(300), NOT);
        due("no place 39", x.truth(3939), NOT);
        WheelSkips y = with("1wsww");
        due("0 to 1 now", y.truth(1), 2);
        due("a later 0 to 1: from the first", y.truth(101), 5);
        y.on(1);
        due("now counts", y.truth(1), 1);
        due("never 3", y.truth(3), NOT);
        WheelSkips late = with("fw");
        law(late, "t<2000");
        due("b in the 2000th", late.truth(1), 2000);
        due("a in the 2000th", late.truth(100), 1);
        law(late, "t<2001");
        dueAll("not within 2000", NOT, late.truth(1), late.truth(100));
        law(late, "t>1&t<2001");
        due("a in night 1, b 2000 nights on", late.truth(101), 2000);
        law(late, "t>1&t<2002");
        due("b later than 2000 nights on", late.truth(101), NOT);
        due("as before", late.count(1), 0);
    }

    private static void nearest() {
        promise = "19 near";
        WheelSkips e = new WheelSkips();
        dueAll("without wheels", STATE, e.near(1, 0), e.near(400, 1), e.near(1, 2));
        dueAll("BAD is named first", BAD, e.near(0, 0), e.near(401, 0), e.near(1, 3), e.near(1, -1));
        WheelSkips x = with("wws");
        dueAll("near that is wrong", BAD, x.near(0, 0), x.near(-1, 0), x.near(401, 0), x.near(5, 3), x.near(5, -1),
            x.near(MIN, 0), x.near(MAX, 0), x.near(5, MIN), x.near(5, MAX));
        due("the skip becomes whole", x.near(6, 0), 2000 + 'w');
        due("nothing wrong then", x.near(6, 1), 0);
        due("1 2 1 2 1 2 against 1 2 0 1 2 0", x.near(6, 2), 4);
        due("400", x.near(400, 1), 0);
        due("the tooth is as before", x.of(0, 102), 's');
        due("no change", x.count(4), 0);
        WheelSkips y = with("ww");
        due("not the same one", y.near(1, 0), 1000 + 's');
        due("as it is", y.near(1, 2), 0);
        due("of like ones the first tooth", y.near(2, 0), 's');
        due("wrong", y.near(2, 1), 1);
        WheelSkips far = with("wwwwwwww");
        due("of like ones the first letter", far.near(1, 0), 1000 + 's');
        far.lay(0, 7);
        due("like ones: tooth 0", far.near(1, 0), 's');
        WheelSkips days = with("swww");
        days.set(0, 2);
        due("days 0 1 0 0 against 1 0 1 0", days.near(4, 2), 3);
        days.set(0, 1);
        due("one day is always right", days.near(4, 2), 0);
        due("the first of all", days.near(4, 0), 'w');
        WheelSkips stick = with("w1w");
        due("1 is no change", stick.near(9, 0), 1000 + 'w');
        WheelSkips three = with("sss");
        due("s is no change: w first", three.near(1, 0), 'w');
        WheelSkips wait = with("2www");
        wait.on(1);
        due("from now on", wait.near(3, 2), 3);
        due("waits of 1 are not below 1", wait.near(3, 0), 'w');
        due("so 1 is as right as w", wait.near(3, 1), 0);
    }

    private static void recording() {
        promise = "20 record";
        WheelSkips x = new WheelSkips();
        dueAll("record that is wrong", BAD, x.record(-1, 0), x.record(5001, 0), x.record(0, -1), x.record(0, 40),
            x.record(MIN, 0), x.record(MAX, 0), x.record(0, MIN), x.record(0, MAX));
        due("none came", x.count(2), 0);
        due("record(0, 0)", x.record(0, 0), 0);
        due("record(5000, 39)", x.record(5000, 39), 1);
        for (int i = 2; i < 40; i++) due("record", x.record(i, i % 40), i);
        due("a 41st", x.record(1, 1), FULL);
        due("BAD is named first", x.record(1, 40), BAD);
        due("count(2)", x.count(2), 40);
        x.on(10);
        due("a past one", x.record(1, 1), FULL);
        x.clear();
        due("a past one comes too", x.record(1, 1), 0);
        due("the same one again", x.record(1, 1), 1);
    }

    private static void recordsFromRows() {
        promise = "21 records";
        WheelSkips x = with("wwwww");
        dueAll("nothing is missing", 0, x.records(0, 0, 1), x.records(5, 0, 30), x.records(0, -1, 1), x.records(0, MAX, 1));
        dueAll("records that is wrong", BAD, x.records(-1, 0, 1), x.records(6, 0, 1), x.records(0, 0, 0),
            x.records(0, 0, 31), x.records(0, 0, -1), x.records(MAX, 0, 1), x.records(MIN, 0, 1), x.records(0, 0, MAX),
            x.records(0, 0, MIN));
        x.body(0);
        x.keep(1, 0);
        due("a body", x.records(1, 0, 1), -12);
        for (int sort : new int[] {0, 2, 3, 4}) {
            x.row(2, sort, 10);
            dueAll("no shorts", -12, x.records(2, 0, 1), x.records(2, -1, 1), x.records(2, 50, 30));
        }
        due("BAD is named first", x.records(1, 0, 0), BAD);
        x.row(0, 1, 7);
        long[] row = {1, 1, 2, 2, 3, 4, 9};
        for (int i = 0; i < 7; i++) x.put(0, i, row[i]);
        dueAll("behind its end, ahead of its start", 0, x.records(0, 7, 1), x.records(0, 6, 1), x.records(0, -1, 1),
            x.records(0, MAX, 1), x.records(0, MIN, 1), x.records(0, MAX - 1, 30), x.records(0, -2, 5));
        due("none came", x.count(2), 0);
        due("two", x.records(0, 0, 2), 2);
        due("count(2)", x.count(2), 2);
        due("within a two it ends", x.records(0, 2, 30), 2);
        due("count(2)", x.count(2), 4);
        due("night 3 is at 3, not 4", x.judge(), 3);
        due("from an odd place on", x.records(0, 1, 30), 3);
        due("night 1 at 2", x.judge(), 3);
        x.clear();
        x.put(0, 3, 40);
        due("a place that can't be: those ahead came", x.records(0, 0, 3), 1);
        x.put(0, 3, 2);
        x.put(0, 2, 5001);
        due("a night that can't be", x.records(0, 0, 3), 1);
        x.put(0, 2, -1);
        due("a night below 0", x.records(0, 0, 3), 1);
        x.put(0, 2, 5000);
        due("the latest night", x.records(0, 0, 3), 3);
        due("count(2)", x.count(2), 6);
        x.clear();
        x.row(3, 1, 60);
        due("30 of 0, 0", x.records(3, 0, 30), 30);
        due("10 more", x.records(3, 0, 30), 10);
        due("full", x.records(3, 0, 30), 0);
        due("count(2)", x.count(2), 40);
        x.row(4, 1, 0);
        due("an empty row", x.records(4, 0, 1), 0);
        x.keep(3, -1);
        due("gone", x.records(3, 0, 30), 0);
    }

    private static void clearing() {
        promise = "22 clear";
        WheelSkips x = with("ww");
        due("none", x.clear(), 0);
        x.record(1, 0);
        x.record(2, 1);
        x.record(7, 1);
        due("wrong", x.judge(), 0);
        due("three", x.clear(), 3);
        due("count(2)", x.count(2), 0);
        due("all right", x.judge(), NOT);
        due("numbers from 0 again", x.record(3, 1), 0);
        due("right", x.judge(), NOT);
    }

    private static void judging() {
        promise = "23 judge";
        WheelSkips e = new WheelSkips();
        due("without wheels", e.judge(), STATE);
        e.record(1, 1);
        due("without wheels", e.judge(), STATE);
        WheelSkips x = with("wwww");
        due("no records", x.judge(), NOT);
        x.record(0, 0);
        x.record(9, 1);
        x.record(5, 1);
        x.record(5, 1);
        due("all right", x.judge(), NOT);
        x.record(7, 0);
        due("7 is at 3", x.judge(), 4);
        x.record(2, 0);
        due("the first by number, not by night", x.judge(), 4);
        x.on(3);
        due("still", x.judge(), 4);
        x.lay(0, 0);
        due("as all goes on from now: night 5 is at 2", x.judge(), 1);
        x.on(5);
        due("night 8, place 1: 9 is at 2", x.judge(), 1);
        x.on(1);
        due("the record of this night counts", x.judge(), 1);
        x.on(1);
        due("all are passed over", x.judge(), NOT);
        WheelSkips y = with("wwwww");
        y.record(5000, 0);
        due("far on", y.judge(), NOT);
        y.record(4999, 0);
        due("far on", y.judge(), 1);
        WheelSkips z = with("ww");
        z.record(3, 39);
        due("a place that isn't there", z.judge(), 0);
        due("as before", z.count(1), 0);
    }

    private static void fitting() {
        promise = "24 fits";
        due("without wheels", new WheelSkips().fits(0), BAD);
        WheelSkips x = with("www", "wwwww");
        dueAll("fits that is wrong", BAD, x.fits(-1), x.fits(3), x.fits(4), x.fits(MAX), x.fits(MIN));
        due("no records", x.fits(0), 15);
        x.record(1, 2);
        due("a skip", x.fits(0), 2);
        due("tooth 1 is not come to", x.fits(1), 0);
        x.clear();
        x.record(1, 1);
        due("whole or, as it is not cold, frost", x.fits(0), 5);
        due("tooth 1", x.fits(1), 15);
        x.clear();
        x.record(1, 0);
        due("a stick", x.fits(0), 8);
        law(x, "1");
        due("a stick or frost", x.fits(0), 12);
        x.record(2, 1);
        due("frost would stay", x.fits(0), 8);
        due("the tooth is as before", x.of(0, 100), 'w');
        due("no change", x.count(4), 0);
        x.on(1);
        due("the record of this night is wrong whatever comes", x.fits(1), 0);
        x.clear();
        x.record(0, 2);
        x.record(2, 0);
        due("past ones are passed over", x.fits(1), 2);
        x.clear();
        due("none", x.fits(2), 15);
    }

    private static void surely() {
        promise = "25 sure";
        WheelSkips e = new WheelSkips();
        dueAll("without wheels", STATE, e.sure(0), e.sure(1));
        dueAll("BAD is named first", BAD, e.sure(2), e.sure(-1));
        WheelSkips x = with("wwww");
        dueAll("sure that is wrong", BAD, x.sure(2), x.sure(-1), x.sure(MAX), x.sure(MIN));
        due("no records: all fit", x.sure(0), 0);
        due("none", x.sure(1), NOT);
        x.record(1, 2);
        due("tooth 0 skips", x.sure(0), 1);
        due("tooth 0", x.sure(1), 0);
        x.clear();
        x.record(1, 1);
        due("two fit at tooth 0", x.sure(0), 0);
        x.record(2, 3);
        due("tooth 1 skips", x.sure(0), 1);
        due("tooth 1", x.sure(1), 1);
        x.clear();
        x.record(2, 1);
        due("0 or 1 sticks", x.sure(0), 2);
        due("the first", x.sure(1), 0);
        due("no change", x.count(4), 0);
    }

    private static void whenBroken() {
        promise = "26 when";
        WheelSkips e = new WheelSkips();
        dueAll("without wheels", STATE, e.when(0), e.when(1), e.when(2));
        dueAll("BAD is named first", BAD, e.when(3), e.when(-1));
        WheelSkips x = with("bb");
        dueAll("when that is wrong", BAD, x.when(3), x.when(-1), x.when(MAX), x.when(MIN));
        due("all", x.when(0), 0);
        due("all", x.when(1), 400);
        due("all", x.when(2), 401);
        x.broke(0, 33);
        x.record(3, 1);
        due("2 and 4 .. 400", x.when(0), 2);
        due("2 and 4 .. 400", x.when(1), 400);
        due("2 and 4 .. 400", x.when(2), 398);
        x.record(4, 0);
        due("5 .. 400", x.when(0), 5);
        due("5 .. 400", x.when(2), 396);
        x.record(300, 0);
        due("BROKE is as before", x.of(0, 3), 33);
        due("one change", x.count(4), 1);
        x.record(5, 0);
        dueAll("5 alone", 5, x.when(0), x.when(1));
        due("one", x.when(2), 1);
        x.record(4, 1);
        dueAll("none", NOT, x.when(0), x.when(1));
        due("none", x.when(2), 0);
        WheelSkips y = with("bbb");
        y.record(398, 2);
        y.record(399, 0);
        y.record(400, 2);
        dueAll("the last one tried", 400, y.when(0), y.when(1));
        due("one", y.when(2), 1);
        y.clear();
        y.on(10);
        y.record(11, 2);
        due("10 times 2 on", y.of(0, 1), 2);
        due("night 11 shows 0 or 1", y.when(2), 0);
        y.clear();
        y.record(11, 1);
        due("2 on: broken by night 11", y.when(1), 11);
        due("0 .. 11", y.when(2), 12);
        WheelSkips w = with("ww");
        w.record(2, 0);
        due("without broken teeth all", w.when(2), 401);
        w.record(3, 0);
        due("or none", w.when(0), NOT);
    }

    private static void watching() {
        promise = "27 watch";
        due("without wheels", new WheelSkips().watch(0), BAD);
        WheelSkips x = with("wwww");
        dueAll("watch that is wrong", BAD, x.watch(-1), x.watch(4), x.watch(MAX), x.watch(MIN));
        due("whole and frost are alike", x.watch(0), NOT);
        law(x, "t=1");
        due("nights 1 and 6", x.watch(0), 33);
        x.record(1, 0);
        due("frost and a stick fit", x.fits(0), 12);
        due("night 6", x.watch(0), 32);
        x.clear();
        x.record(1, 2);
        due("one fits", x.watch(0), 0);
        x.record(1, 1);
        due("none fits", x.watch(0), 0);
        x.clear();
        law(x, "0?1");
        x.record(1, 1);
        due("whole and frost", x.watch(0), NOT);
        law(x, "t>1");
        due("both fit", x.fits(0), 5);
        due("frost holds in night 5", x.watch(0), 16);
        due("no change", x.count(4), 0);
        WheelSkips y = with("wwwwwwwwwwwwwwww");
        law(y, "1");
        due("not come to within 10", y.watch(10), NOT);
        due("come to in the 10th", y.watch(9), NOT);
        law(y, "t=9");
        y.record(9, 9);
        y.record(10, 10);
        due("tooth 9: whole or not cold", y.fits(9), 5);
    }

    private static void images() {
        promise = "28, 29 image, back";
        WheelSkips x = with("w3", "www");
        due("none", x.back(), STATE);
        x.on(3);
        due("image()", x.image(), 3);
        due("waits", x.of(0, 2), 2);
        x.on(40);
        x.tooth(0, 0, 's');
        x.broke(1, 9);
        x.set(0, 3);
        x.record(50, 1);
        wheel(x, "wwww");
        x.lay(2, 3);
        x.lay(1, 2);
        due("back()", x.back(), 3);
        due("count(1)", x.count(1), 3);
        due("place and waits", 10 * x.of(0, 1) + x.of(0, 2), 12);
        due("wheel 1", x.of(1, 1), 0);
        due("a wheel that came since stays", x.of(2, 1), 3);
        due("teeth stay", x.of(0, 100), 's');
        due("BROKE stays", x.of(1, 3), 9);
        due("WEEK stays", x.set(0, 3), 3);
        due("records stay", x.count(2), 1);
        due("changes stay", x.count(4), 2);
        x.on(5);
        due("back() again", x.back(), 3);
        x.on(5);
        x.lay(2, 2);
        due("a new image", x.image(), 8);
        x.lay(2, 3);
        x.on(1);
        due("back()", x.back(), 8);
        due("now wheel 2 is in it", x.of(2, 1), 2);
        WheelSkips e = new WheelSkips();
        e.on(2);
        due("without wheels", e.image(), 2);
        wheel(e, "ww");
        e.on(1);
        due("back()", e.back(), 2);
        due("the wheel stays", e.of(0, 1), 1);
    }

    private static void undoing() {
        promise = "30, 31 undo, redo";
        WheelSkips x = with("ww", "www");
        due("none", x.undo(), STATE);
        due("none", x.redo(), STATE);
        x.tooth(0, 1, 's');
        x.tooth(1, 2, '4');
        x.broke(0, 50);
        x.broke(1, 60);
        due("four", x.count(4), 4);
        due("none to do again", x.redo(), STATE);
        due("undo()", x.undo(), 3);
        due("BROKE of 1", x.of(1, 3), 0);
        due("BROKE of 0", x.of(0, 3), 50);
        due("undo()", x.undo(), 2);
        due("BROKE of 0", x.of(0, 3), 0);
        due("undo()", x.undo(), 1);
        due("tooth", x.of(1, 102), 'w');
        due("redo()", x.redo(), 2);
        due("tooth", x.of(1, 102), '4');
        due("redo()", x.redo(), 1);
        due("count(4)", x.count(4), 3);
        x.on(1);
        x.lay(0, 0);
        x.image();
        due("no other change came: redo()", x.redo(), 0);
        due("BROKE of 1", x.of(1, 3), 60);
        due("none to do again", x.redo(), STATE);
        x.undo();
        x.undo();
        x.tooth(0, 0, '1');
        due("another came behind", x.redo(), STATE);
        due("count(4)", x.count(4), 3);
        due("undo()", x.undo(), 2);
        due("undo()", x.undo(), 1);
        due("undo()", x.undo(), 0);
        due("as at first", x.of(0, 101), 'w');
        due("none", x.undo(), STATE);
        due("redo()", x.redo(), 2);
        due("the first again", x.of(0, 101), 's');
        WheelSkips y = with("ww");
        for (int i = 1; i <= 45; i++) y.broke(0, i);
        due("40 at most", y.count(4), 40);
        for (int i = 39; i >= 0; i--) due("undo()", y.undo(), i);
        due("the oldest are not kept", y.of(0, 3), 5);
        due("none", y.undo(), STATE);
        due("redo()", y.redo(), 39);
        due("redone", y.of(0, 3), 6);
        for (int i = 38; i >= 0; i--) due("redo()", y.redo(), i);
        due("redone", y.of(0, 3), 45);
        y.undo();
        y.broke(0, 100);
        due("40 again", y.count(4), 40);
        y.tooth(0, 0, 's');
        due("and a 41st", y.count(4), 40);
        for (int i = 0; i < 40; i++) y.undo();
        due("6 was the oldest", y.of(0, 3), 6);
        dueAll("a wrong call is no change", BAD, y.tooth(0, 2, 'w'), y.broke(0, -1));
        due("so it may be done again", y.redo(), 39);
        undoingNoChange();
        undoingNoChangeWhenFull();
    }

    private static void undoingNoChange() {
        WheelSkips x = with("ws", "www");
        due("BROKE is 0 at first", x.broke(0, 0), 0);
        due("the tooth is s at first", x.tooth(0, 1, 's'), 's');
        due("no change", x.count(4), 0);
        due("none", x.undo(), STATE);
        x.broke(0, 300);
        due("broke(0, 300)", x.broke(0, 300), 300);
        due("one change", x.count(4), 1);
        due("undo()", x.undo(), 0);
        due("BROKE of 0", x.of(0, 3), 0);
        due("as it was: broke(0, 0)", x.broke(0, 0), 0);
        due("as it was: tooth", x.tooth(1, 2, 'w'), 'w');
        due("none came behind: redo()", x.redo(), 0);
        due("BROKE of 0", x.of(0, 3), 300);
        due("on the other wheel 300 is a change", x.broke(1, 300), 0);
        due("two changes", x.count(4), 2);
        x.tooth(0, 0, '7');
        due("tooth", x.tooth(0, 0, '7'), '7');
        due("three changes", x.count(4), 3);
        x.tooth(0, 0, 'w');
        due("there and back are two", x.count(4), 4);
        x.undo();
        x.undo();
        due("the tooth", x.of(0, 100), 'w');
        due("as it was: tooth", x.tooth(0, 0, 'w'), 'w');
        due("as it was: broke", x.broke(1, 300), 300);
        due("redo()", x.redo(), 1);
        due("the tooth", x.of(0, 100), '7');
        due("as it is now", x.tooth(0, 0, '7'), '7');
        due("redo()", x.redo(), 0);
        due("none to do again", x.redo(), STATE);
    }

    private static void undoingNoChangeWhenFull() {
        WheelSkips x = with("ww");
        for (int i = 1; i <= 40; i++) x.broke(0, i);
        due("as it was", x.broke(0, 40), 40);
        due("as it was", x.tooth(0, 1, 'w'), 'w');
        due("40 changes", x.count(4), 40);
        for (int i = 39; i >= 0; i--) due("undo()", x.undo(), i);
        due("the oldest was still kept", x.of(0, 3), 0);
    }

    private static void bodies() {
        promise = "32 body";
        WheelSkips x = new WheelSkips();
        dueAll("body that is wrong", BAD, x.body(-1), x.body(8), x.body(MIN), x.body(MAX));
        for (int i = 0; i < 50; i++) due("body", x.body(i % 8), i);
        due("a 51st", x.body(0), FULL);
        due("BAD is named first", x.body(8), BAD);
        due("count(5)", x.count(5), 50);
        due("act of the last", x.act(49, 0, 1), 1 + 49 + 3);
    }

    private static void acts() {
        promise = "33 act";
        WheelSkips x = new WheelSkips();
        for (int kind = 0; kind < 8; kind++) x.body(kind);
        int[][] want = {
            {10, 20, 10, 20 - 1},
            {14, 28, 11, 28 - 0},
            {12, -24, 8, -24 - 3},
            {13, -28, 27, -28 - 6},
            {17, 34, 14, 29 ^ 5},
            {18, 36, 15 - 10, (36 - (4 - 10) ^ 5) + 1},
            {32, 64, 12, 64 - 7},
            {33, 66 + 5, 13, 71 - 6}};
        for (int kind = 0; kind < 8; kind++) {
            for (int act = 0; act < 4; act++) {
                due("act(" + kind + ", " + act + ", 10)", x.act(kind, act, 10), want[kind][act]);
            }
        }
        due("x wraps", x.act(1, 0, MAX), MAX + 4);
        due("x wraps", x.act(3, 1, MAX), -((MIN + 3) * 2));
        due("x wraps", x.act(7, 0, MAX), (MAX + 7) * 2 - 1);
        due("negative", x.act(0, 1, -5), -10);
        dueAll("no such body, act", 0, x.act(8, 0, 1), x.act(-1, 0, 1), x.act(0, 4, 1), x.act(0, -1, 1), x.act(MAX, 0, 1),
            x.act(MIN, 0, 1), x.act(0, MAX, 1), x.act(0, MIN, 1));
        dueAll("no bodies", 0, new WheelSkips().act(0, 0, 1));
        x.body(3);
        due("n is its number", x.act(8, 2, 10), (10 ^ 8) * 3);
    }

    private static void traced(WheelSkips x, int body, int act, int... numbers) {
        x.act(body, act, 3);
        due("count(6) of " + body + ", " + act, x.count(6), numbers.length);
        for (int i = 0; i < numbers.length; i++) due("trace of " + body + ", " + act, x.trace(i), numbers[i]);
        due("behind the last", x.trace(numbers.length), BAD);
    }

    private static void traces() {
        promise = "34 trace";
        WheelSkips x = new WheelSkips();
        for (int kind = 0; kind < 8; kind++) x.body(kind);
        dueAll("no act yet", BAD, x.trace(0), x.trace(-1), x.trace(MAX), x.trace(MIN));
        traced(x, 0, 0, 1);
        traced(x, 0, 1, 10, 1);
        traced(x, 0, 2, 11);
        traced(x, 0, 3, 2, 10, 1, 11);
        traced(x, 1, 0, 20, 1);
        traced(x, 1, 1, 10, 20, 1);
        traced(x, 1, 3, 2, 10, 20, 1, 11);
        traced(x, 2, 1, 30, 10, 1);
        traced(x, 2, 3, 2, 30, 10, 1, 11);
        traced(x, 3, 0, 1);
        traced(x, 3, 1, 41, 30, 10, 1);
        traced(x, 3, 2, 40, 11);
        traced(x, 3, 3, 2, 41, 30, 10, 1, 40, 11);
        traced(x, 4, 2, 11);
        traced(x, 4, 3, 50, 2, 10, 20, 1, 11);
        traced(x, 5, 0, 20, 1);
        traced(x, 5, 2, 60, 11, 20, 1);
        traced(x, 5, 3, 61, 50, 2, 10, 20, 1, 60, 11, 20, 1);
        traced(x, 6, 0, 70, 1);
        traced(x, 6, 3, 2, 10, 70, 1, 11);
        traced(x, 7, 0, 81, 70, 1);
        traced(x, 7, 1, 80, 10, 81, 70, 1, 11);
        traced(x, 7, 2, 11);
        traced(x, 7, 3, 2, 80, 10, 81, 70, 1, 11, 11);
        dueAll("trace that is wrong", BAD, x.trace(-1), x.trace(24), x.trace(MAX), x.trace(MIN));
        x.act(8, 0, 1);
        due("no trace then", x.trace(0), BAD);
        due("count(6)", x.count(6), 0);
        x.act(0, 0, 1);
        x.act(0, 4, 1);
        due("no trace then", x.trace(0), BAD);
        due("count(6)", x.count(6), 0);
    }

    private static void keeping() {
        promise = "35 keep";
        WheelSkips x = new WheelSkips();
        x.body(5);
        x.body(2);
        dueAll("keep that is wrong", BAD, x.keep(-1, 0), x.keep(6, 0), x.keep(0, 2), x.keep(0, -2), x.keep(MAX, 0),
            x.keep(MIN, 0), x.keep(0, MAX), x.keep(0, MIN), x.keep(6, -1));
        due("keep(0, -1)", x.keep(0, -1), 1);
        due("keep(5, 1)", x.keep(5, 1), 1);
        due("taken", x.taken(5, 2), 2);
        due("keep(5, 0)", x.keep(5, 0), 1);
        due("taken", x.taken(5, 5), 5);
        due("another shelf", x.taken(4, 0), -11);
        due("a body on two shelves", x.keep(4, 0) + x.taken(4, 4), 6);
        due("keep(5, -1)", x.keep(5, -1), 1);
        due("nothing there", x.taken(5, 5), -11);
        x.row(5, 0, 3);
        due("wrong changes nothing", x.keep(5, 7), BAD);
        due("the row is there", x.put(5, 2, 1), 1);
        due("a body for a row", x.keep(5, 1), 1);
        due("put", x.put(5, 2, 1), -12);
        x.row(5, 0, 3);
        due("a new row is 0", x.element(5, 2), 0);
    }

    private static void rows() {
        promise = "36 row";
        WheelSkips x = new WheelSkips();
        dueAll("row that is wrong", BAD, x.row(-1, 0, 1), x.row(6, 0, 1), x.row(0, -1, 1), x.row(0, 5, 1), x.row(0, 0, 61),
            x.row(MAX, 0, 1), x.row(MIN, 0, 1), x.row(0, MAX, 1), x.row(0, MIN, 1), x.row(0, 0, MAX));
        dueAll("BAD is named first", BAD, x.row(6, 0, -1), x.row(0, 5, -1), x.row(-1, 0, MIN));
        dueAll("a size below 0", -14, x.row(0, 0, -1), x.row(5, 4, MIN));
        due("nothing there", x.put(0, 0, 1), -11);
        for (int sort = 0; sort < 5; sort++) {
            due("row", x.row(sort, sort, 60), 1);
            due("put", x.put(sort, 59, 1), 1);
            due("element", x.element(sort, 59), 1);
            due("element", x.element(sort, 0), 0);
            due("put", x.put(sort, 60, 1), -13);
        }
        due("row of 0", x.row(0, 2, 0), 1);
        due("no place 0", x.put(0, 0, 1), -13);
        due("row again", x.row(1, 1, 60), 1);
        due("0 at first", x.element(1, 59), 0);
        x.put(1, 3, 7);
        due("wrong changes nothing", x.row(1, 1, -1) + x.row(1, 9, 3) + x.row(1, 1, 61), -16);
        due("element", x.element(1, 3), 7);
        due("the next shelf", x.element(2, 59), 1);
    }

    private static void putting() {
        promise = "37 put";
        WheelSkips x = new WheelSkips();
        x.body(0);
        x.keep(1, 0);
        x.row(2, 2, 3);
        dueAll("put that is wrong", BAD, x.put(-1, 0, 1), x.put(6, 0, 1), x.put(MAX, 0, 1), x.put(MIN, 0, 1));
        dueAll("nothing there", -11, x.put(0, 0, 1), x.put(0, -1, 1), x.put(0, 99, 1));
        dueAll("another kind", -12, x.put(1, 0, 1), x.put(1, -1, 1));
        dueAll("no such place", -13, x.put(2, 3, 1), x.put(2, -1, 1), x.put(2, MAX, 1), x.put(2, MIN, 1));
        due("put", x.put(2, 2, 1), 1);
        long[] given = {0, 1, -1, 127, 128, 255, 256, 300, -129, 32767, 32768, 65536, 70000, 2147483647L, 2147483648L,
            4294967296L, 4294967297L, Long.MAX_VALUE, Long.MIN_VALUE};
        for (int sort = 0; sort < 5; sort++) {
            x.row(3, sort, 2);
            for (long v : given) {
                long want = sort == 0 ? (byte) v : sort == 1 ? (short) v : sort == 2 ? (int) v : sort == 3 ? v : v != 0 ? 1 : 0;
                due("put", x.put(3, 1, v), 1);
                due("element of sort " + sort + " for " + v, x.element(3, 1), want);
            }
            due("its neighbour", x.element(3, 0), 0);
        }
    }

    private static void elements() {
        promise = "38 element";
        WheelSkips x = new WheelSkips();
        x.body(0);
        x.keep(1, 0);
        x.row(2, 3, 3);
        long none = Long.MIN_VALUE;
        due("BAD", x.element(-1, 0), none);
        due("BAD", x.element(6, 0), none);
        due("BAD", x.element(MAX, 0), none);
        due("BAD", x.element(MIN, 0), none);
        due("nothing there", x.element(0, 0), none);
        due("another kind", x.element(1, 0), none);
        due("another kind", x.element(1, -1), none);
        due("no such place", x.element(2, 3), none);
        due("no such place", x.element(2, -1), none);
        due("no such place", x.element(2, MAX), none);
        due("no such place", x.element(2, MIN), none);
        due("0 at first", x.element(2, 2), 0);
        x.put(2, 0, -11);
        due("element", x.element(2, 0), -11);
        due("its neighbour", x.element(2, 1), 0);
    }

    private static WheelSkips withRows() {
        WheelSkips x = new WheelSkips();
        x.body(0);
        x.keep(1, 0);
        x.row(2, 2, 6);
        x.row(3, 2, 4);
        x.row(4, 1, 4);
        x.row(5, 4, 6);
        for (int i = 0; i < 6; i++) x.put(2, i, i + 1);
        for (int i = 0; i < 4; i++) x.put(3, i, 9);
        return x;
    }

    private static void content(WheelSkips x, int shelf, String digits) {
        for (int i = 0; i < digits.length(); i++) {
            due("element " + i + " of " + shelf, x.element(shelf, i), digits.charAt(i) - '0');
        }
    }

    private static void shifting() {
        promise = "39 shift";
        WheelSkips x = withRows();
        dueAll("shift that is wrong", BAD, x.shift(-1, 0, 2, 0, 1), x.shift(6, 0, 2, 0, 1), x.shift(2, 0, -1, 0, 1),
            x.shift(2, 0, 6, 0, 1), x.shift(0, 0, 6, 0, 1), x.shift(MAX, 0, 2, 0, 1), x.shift(2, 0, MIN, 0, 1));
        dueAll("nothing there, either", -11, x.shift(0, 0, 2, 0, 1), x.shift(2, 0, 0, 0, 1), x.shift(0, 0, 1, 0, 1),
            x.shift(1, 0, 0, 0, 1), x.shift(0, -1, 0, 0, -1));
        dueAll("no rows, or of unlike sorts", -12, x.shift(1, 0, 2, 0, 1), x.shift(2, 0, 1, 0, 1), x.shift(1, 0, 1, 0, 1),
            x.shift(2, 0, 4, 0, 1), x.shift(4, 0, 2, 0, 1), x.shift(2, -1, 4, 0, -1), x.shift(5, 0, 2, 0, 1));
        dueAll("places that are not there", -13, x.shift(2, 0, 3, 0, -1), x.shift(2, -1, 3, 0, 1), x.shift(2, 0, 3, -1, 1),
            x.shift(2, 0, 3, 0, 5), x.shift(2, 4, 3, 0, 3), x.shift(2, 0, 3, 2, 3), x.shift(2, 7, 3, 0, 0),
            x.shift(2, 0, 3, 5, 0), x.shift(2, MAX, 3, 0, 1), x.shift(2, 0, 3, MAX, 1), x.shift(2, 1, 3, 0, MAX),
            x.shift(2, 0, 3, 0, MIN), x.shift(2, MIN, 3, 0, MIN), x.shift(2, MAX, 3, MAX, MAX));
        content(x, 2, "123456");
        content(x, 3, "9999");
        dueAll("none", 0, x.shift(2, 0, 3, 0, 0), x.shift(2, 6, 3, 4, 0));
        due("three", x.shift(2, 1, 3, 0, 3), 3);
        content(x, 3, "2349");
        due("back", x.shift(3, 0, 2, 3, 3), 3);
        content(x, 2, "123234");
        due("to the very end", x.shift(2, 5, 3, 3, 1), 1);
        content(x, 3, "2344");
        WheelSkips up = withRows();
        due("up in itself", up.shift(2, 0, 2, 1, 5), 5);
        content(up, 2, "112345");
        WheelSkips down = withRows();
        due("down in itself", down.shift(2, 1, 2, 0, 5), 5);
        content(down, 2, "234566");
        WheelSkips same = withRows();
        due("onto itself", same.shift(2, 0, 2, 0, 6), 6);
        content(same, 2, "123456");
        same.put(5, 0, 4);
        due("booleans", same.shift(5, 0, 5, 2, 4), 4);
        content(same, 5, "101000");
    }

    private static void taking() {
        promise = "40 taken";
        WheelSkips x = new WheelSkips();
        for (int kind = 0; kind < 8; kind++) x.body(kind);
        dueAll("taken that is wrong", BAD, x.taken(-1, 0), x.taken(6, 0), x.taken(0, -1), x.taken(0, 8), x.taken(MAX, 0),
            x.taken(MIN, 0), x.taken(0, MAX), x.taken(0, MIN));
        due("nothing there", x.taken(0, 0), -11);
        x.row(1, 3, 5);
        dueAll("a row", -12, x.taken(1, 0), x.taken(1, 7));
        String[] above = {"0", "01", "02", "023", "014", "0145", "06", "067"};
        for (int kind = 0; kind < 8; kind++) {
            x.keep(2, kind);
            for (int k = 0; k < 8; k++) {
                boolean under = above[kind].indexOf('0' + k) >= 0;
                due("a body of " + kind + " for one of " + k, x.taken(2, k), under ? kind : -12);
            }
        }
    }

    private static void counting() {
        promise = "41 count";
        WheelSkips x = with("ww", "www");
        feed(x, "abc");
        x.on(7);
        x.record(3, 3);
        x.tooth(0, 0, 's');
        x.tooth(0, 0, 'w');
        x.tooth(0, 0, '1');
        x.undo();
        for (int i = 0; i < 5; i++) x.body(i);
        x.act(4, 3, 1);
        due("WHEELS", x.count(0), 2);
        due("THE NIGHT", x.count(1), 7);
        due("RECORDS", x.count(2), 1);
        due("bytes", x.count(3), 3);
        due("changes", x.count(4), 2);
        due("BODIES", x.count(5), 5);
        due("bodies that ran", x.count(6), 6);
        dueAll("count that is wrong", BAD, x.count(-1), x.count(7), x.count(MAX), x.count(MIN));
    }
}
