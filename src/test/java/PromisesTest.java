/** For each promise of the document: ordinary inputs, the edges it names, wrong inputs. */
public final class PromisesTest {
    private static int wrong = 0;
    private static int asked = 0;
    private static int promise = 0;

    private static void due(long want, long got) {
        asked++;
        if (got != want) {
            wrong++;
            StackTraceElement[] stack = new Throwable().getStackTrace();
            System.out.println("promise " + promise + ", line " + stack[1].getLineNumber() + ": answered " + got + ", due is " + want);
        }
    }

    private static MissCurves tell(MissCurves x, String text) {
        x.end(0);
        for (int i = 0; i < text.length(); i += 20) {
            int[] n = new int[5];
            for (int k = 0; k < 20; k++) {
                n[k / 4] = n[k / 4] << 8 | (i + k < text.length() ? text.charAt(i + k) & 255 : 0);
            }
            x.feed(n[0], n[1], n[2], n[3], n[4]);
        }
        x.end(text.length());
        return x;
    }

    private static int law(MissCurves x, String text) {
        return tell(x, text).law();
    }

    private static int orders(MissCurves x, String text) {
        return tell(x, text).orders();
    }

    private static int policy(MissCurves x, String text) {
        return tell(x, text).policy();
    }

    private static int lawFault(String text) {
        MissCurves x = new MissCurves();
        int answer = law(x, text);
        return answer == -6 ? x.fault() : answer == 0 && x.fault() == -1 ? -1 : -99;
    }

    private static int ordersFault(String text) {
        MissCurves x = new MissCurves();
        int answer = orders(x, text);
        return answer == -6 ? x.fault() : x.fault() == -1 ? -1 : -99;
    }

    /** What a miss of KEY 7 of TENANT 2 costs by a LAW on an object that read nothing. */
    private static int costBy(String text) {
        MissCurves x = new MissCurves();
        x.terms(0, 30);
        x.terms(2, 4);
        return law(x, text) == 0 ? x.compare(0, 2, 7) : -99;
    }

    private static MissCurves reads(int tenant, int... keys) {
        MissCurves x = new MissCurves();
        for (int k : keys) {
            x.read(tenant, k);
        }
        return x;
    }

    private static void report(MissCurves x, int tenant, String want) {
        due(want.length(), x.report(tenant));
        for (int i = 0; i < want.length(); i++) {
            due(want.charAt(i), x.sign(i));
        }
        due(-1, x.sign(want.length()));
        due(-1, x.sign(-1));
    }

    private static void newObject() {
        promise = 1;
        MissCurves x = new MissCurves();
        for (int t = 0; t < 4; t++) {
            for (int what = 0; what <= 28; what++) {
                due(what == 2 ? 1000 : 0, x.of(t, what));
            }
        }
        int[] counts = {0, 0, 0, 0, 0, 0, 0, 0, 0, 0, -1, 0, 1, 0, 0};
        for (int i = 0; i < counts.length; i++) {
            due(counts[i], x.count(i));
        }
        due(0, x.status());
        due(-1, x.fault());
        due(-1, x.stopped());
        due(0, x.blanks());
        due(-1, x.sign(0));
        due(-1, x.drawn(0, 0));
    }

    private static void ofAndTop() {
        promise = 2;
        MissCurves x = reads(1, 5, 6, 5, 5, 7, 6);
        due(3, x.of(1, 0));
        due(3, x.of(1, 1));
        due(1000, x.of(1, 2));
        due(6, x.of(1, 3));
        due(3, x.of(1, 4));
        due(1, x.of(1, 5));
        due(1, x.of(1, 6));
        due(1, x.of(1, 7));
        due(0, x.of(1, 28));
        due(-1, x.of(1, 29));
        due(-1, x.of(1, -1));
        due(-1, x.of(-1, 0));
        due(-1, x.of(4, 0));
        for (int i = 0; i < 40; i++) {
            x.read(2, i);
        }
        due(24, x.of(2, 0));
        due(32, x.of(2, 3));
        due(40, x.of(2, 4));
        due(24, x.read(2, 16));
        due(0, x.read(2, 15));
        due(1, x.of(2, 28));
        promise = 3;
        due(6, x.top(1, 1));
        due(7, x.top(1, 2));
        due(5, x.top(1, 3));
        due(-1, x.top(1, 4));
        due(-1, x.top(1, 0));
        due(-1, x.top(1, -1));
        due(15, x.top(2, 1));
        due(16, x.top(2, 2));
        due(39, x.top(2, 3));
        due(18, x.top(2, 24));
        due(-1, x.top(2, 25));
        due(-1, x.top(4, 1));
        due(-1, x.top(Integer.MIN_VALUE, 1));
    }

    private static void key() {
        promise = 4;
        MissCurves x = reads(0, 5, 6, 7);
        due(3, x.key(0, 5, 0));
        due(0, x.key(0, 8, 0));
        due(1, x.key(0, 7, 1));
        due(0, x.key(1, 7, 1));
        due(617, x.key(0, 1, 2));
        due(383, x.key(0, 999, 2));
        x.terms(3, 400);
        due(17, x.key(0, 1, 2));
        due(0, x.key(0, 7, 1));
        due(1, x.key(0, 7, 3));
        law(x, "costs far*10+reads; bars if key=7 and far=1");
        x.force(0);
        due(11, x.key(0, 7, 3));
        due(21, x.key(0, 6, 3));
        due(0, x.key(0, 9, 3));
        due(1, x.key(0, 7, 4));
        due(0, x.key(0, 6, 4));
        due(-1, x.key(0, 7, 5));
        due(-1, x.key(0, 7, -1));
        due(-1, x.key(0, -1, 0));
        due(-1, x.key(0, 1000, 2));
        due(-1, x.key(4, 0, 2));
    }

    private static void terms() {
        promise = 5;
        MissCurves x = new MissCurves();
        int[] most = {999, 10, 9, 999};
        int[] first = {0, 1, 0, 0};
        for (int i = 0; i < 4; i++) {
            due(first[i], x.terms(i, most[i]));
            due(most[i], x.count(11 + i));
            due(-1, x.terms(i, most[i] + 1));
            due(-1, x.terms(i, -1));
            due(-1, x.status());
            due(most[i], x.terms(i, 0));
            due(0, x.status());
        }
        due(-1, x.terms(4, 0));
        due(-1, x.terms(-1, 0));
        due(-1, x.terms(-1, -1));
        for (int k = 0; k < 9; k++) {
            x.read(0, k);
        }
        due(6, x.of(0, 1));
        due(702, x.of(0, 2));
        x.terms(1, 3);
        due(6, x.of(0, 1));
        x.terms(3, 0);
        due(0, x.of(0, 1));
        due(1000, x.of(0, 2));
        due(0, x.guess(0, 0));
        due(9, x.of(0, 0));
        due(9, x.of(0, 4));
    }

    private static void tape() {
        promise = 6;
        MissCurves x = new MissCurves();
        for (int i = 1; i <= 20; i++) {
            due(20 * i, x.feed(-1, 0, 1, 2, 3));
        }
        due(-1, x.feed(1, 1, 1, 1, 1));
        due(400, x.count(4));
        promise = 7;
        due(-1, x.end(401));
        due(-1, x.end(-1));
        due(381, x.end(381));
        due(-1, x.feed(1, 1, 1, 1, 1));
        due(380, x.end(380));
        due(400, x.feed(1, 1, 1, 1, 1));
        due(3, x.end(3));
        due(-1, x.end(4));
        due(3, x.count(4));
        due(23, x.feed(0, 0, 0, 0, 0));
        due(0, x.end(0));
        due(0, x.end(0));
        promise = 6;
        x.feed(0x00010203, 0x02FF0000, 0, 0, 0);
        x.end(6);
        due(3, x.row());
        due(1, x.top(0, 1));
        due(255, x.top(2, 1));
        due(3, x.top(2, 2));
    }

    private static void row() {
        promise = 8;
        MissCurves x = new MissCurves();
        due(-6, x.row());
        due(-6, x.status());
        x.read(0, 1);
        tell(x, "\u0000\u0001\u0003\u00ff\u0004\u0001\u00ff\u0001\u0001");
        due(9, x.count(4));
        due(2, x.row());
        due(0, x.status());
        due(0, x.count(4));
        due(0, x.count(3));
        due(1, x.of(0, 5));
        due(255, x.top(3, 1));
        promise = 9;
        due(3, x.blanks());
        due(-6, x.row());
        due(3, x.blanks());
        tell(x, "\u0009");
        due(0, x.row());
        due(1, x.blanks());
        law(x, "bars");
        x.force(0);
        promise = 8;
        tell(x, "\u0000\u0001\u0000\u0002");
        due(2, x.row());
        due(0, x.blanks());
        due(3, x.of(0, 4));
        due(1, x.of(0, 0));
        due(2, x.of(0, 3));
        x.read(0, 1);
        x.end(0);
        due(-6, x.row());
        due(1, x.count(3));
    }

    private static void policy() {
        promise = 10;
        MissCurves x = new MissCurves();
        String[] names = {"lru", "mru", "fifo", "lfu", "min"};
        x.read(0, 0);
        for (int i = 0; i < 5; i++) {
            due(i, policy(x, "  " + names[i] + " "));
            due(i, x.count(0));
            due(-1, x.fault());
            due(0, x.count(4));
        }
        due(1, x.count(3));
        String[] bad = {"", "   ", "lru mru", "Lru", "lr", "lruu", " lru1", "5", "lru\u0000"};
        int[] faults = {0, 3, 4, 0, 0, 0, 4, 0, 3};
        for (int i = 0; i < bad.length; i++) {
            due(-6, policy(x, bad[i]));
            due(faults[i], x.fault());
            due(0, x.count(4));
            due(-6, x.status());
        }
        due(4, x.count(0));
    }

    private static void laws() {
        promise = 11;
        MissCurves x = new MissCurves();
        x.read(0, 0);
        for (int i = 0; i < 6; i++) {
            due(-6, law(x, "costs"));
            due(i, law(x, "costs " + i));
            due(-1, x.fault());
            due(0, x.count(4));
            due(i + 1, x.count(2));
        }
        due(-6, policy(x, " nothing"));
        due(-5, law(x, "costs"));
        due(1, x.fault());
        due(0, x.count(4));
        due(-5, x.status());
        due(-5, law(x, ""));
        due(6, x.count(2));
        due(1, x.count(3));
        due(-1, x.count(10));
        due(3, costBy("costs 3"));
        due(99, costBy("costs 100"));
        due(99, costBy("costs 1000*1000*1000"));
        due(1, costBy("costs 1000*1000*1000+1"));
        due(0, costBy("costs 0-1"));
        due(0, costBy("costs 0-1000*1000*1000"));
        due(1, costBy("costs 0-1000*1000*1000-1"));
        due(5, costBy("costs 5; costs 1/0"));
        due(5, costBy("costs 5; costs 6 if 1=2; costs 7 if 1%0=0"));
        due(6, costBy("costs 5; costs 6 if key=7; bars"));
        due(1, costBy("bars"));
        due(47, costBy("costs time+mood+tenant*[key-1]+0001"));
        due(0, costBy("costs reads+far"));
        due(3, costBy("costs 0-7/2+6"));
        due(9, costBy("costs 10+[0-7]%2"));
        due(2, costBy("costs 2 if 1=1 or 1/0=1"));
        due(1, costBy("costs 2 if 1/0=1 or 1=1"));
        due(1, costBy("costs 2 if 1=2 and 1/0=1"));
        due(2, costBy("costs 2 if not(1=2 and 1/0=1)"));
        due(1, costBy("costs 2 if not 1/0=1"));
        due(2, costBy("costs 2 if 1=2 and 1=2 or 1=1"));
        due(1, costBy("costs 2 if 1=2 and (1=2 or 1=1)"));
        due(2, costBy("costs 2 if not not 3>2"));
        due(1, costBy("costs 2 if not not not 3>2"));
        due(2, costBy("costs 2 if not 3<2 and [[3]]>[2]"));
        due(8, costBy("costs 16/2*1"));
        due(4, costBy("costs 9-3-2"));
    }

    private static void faults() {
        promise = 13;
        String fifty = "1" + "+1".repeat(49);
        String twelve = "bars" + ";bars".repeat(11);
        due(-1, lawFault("costs " + fifty));
        due(106, lawFault("costs " + fifty + "+1"));
        due(106, lawFault("costs " + fifty + "+key"));
        due(114, lawFault("bars;costs " + fifty + " if 1=1"));
        due(-1, lawFault(twelve));
        due(60, lawFault(twelve + ";bars"));
        due(61, lawFault(twelve + "; 7"));
        due(61, lawFault(twelve + "; "));
        due(-1, lawFault("costs [[[[[[[[1]]]]]]]]"));
        due(14, lawFault("costs [[[[[[[[[1]]]]]]]]]"));
        due(-1, lawFault("bars if ((((((([1]=1 or (1=1))))))))"));
        due(-1, lawFault("bars if ((((((((1=1))))))))"));
        due(16, lawFault("bars if (((((((((1=1)))))))))"));
        due(16, lawFault("bars if (((((((([1]=1))))))))"));
        due(-1, lawFault("bars if " + "not ".repeat(97) + "1=1"));
        due(0, lawFault(""));
        due(2, lawFault("  "));
        due(8, lawFault("costs   "));
        due(-1, lawFault("costs 1000"));
        due(6, lawFault("costs 1001"));
        due(6, lawFault("costs 99999999999999999999"));
        due(-1, lawFault("costs 000000000000000001000"));
        due(6, lawFault("costs done"));
        due(6, lawFault("costs -1"));
        due(7, lawFault("costs 1key"));
        due(5, lawFault("bars;"));
        due(4, lawFault("bars\u0000"));
        due(4, lawFault("bars,bars"));
        due(8, lawFault("costs 1 tenant"));
        due(11, lawFault("bars if key"));
        due(12, lawFault("bars if (key)>1"));
        due(14, lawFault("bars if 1=1 or"));
        due(11, lawFault("bars if 1<2<3"));
        due(9, lawFault("costs [1 if 1=1"));
        due(8, lawFault("bars if or"));
        due(0, lawFault("Costs 1"));
        due(0, lawFault("barsz"));
        due(0, lawFault("zbars"));
        due(14, lawFault("bars if 1=1 or"));
        due(15, lawFault("bars if 1=1 and"));
        due(10, lawFault("bars if 1="));
        due(11, lawFault("bars if (1="));
        due(8, lawFault("costs 1+"));
        due(8, lawFault("costs 1*"));
        due(7, lawFault("costs ["));
        due(0, lawFault("read 1 by 1"));
        promise = 12;
        due(0, ordersFault("costs 1"));
        due(9, ordersFault("loop 1 to"));
        due(4, ordersFault("loop"));
        due(9, ordersFault("read 1 by"));
        due(-1, ordersFault("read 1 by 0 times 1"));
        due(-1, ordersFault("read 1 by 0 times 20 if 1=1"));
        due(18, ordersFault("read 1 by 0 times 21"));
        due(18, ordersFault("read 1 by 0 times 0"));
        due(18, ordersFault("read 1 by 0 times [1]"));
        due(19, ordersFault("read 1 by 0 if 1=1 times 2"));
        due(7, ordersFault("read 1 to 2"));
        due(7, ordersFault("loop 1 by 2"));
        due(12, ordersFault("loop 1 to 2 if 1=1"));
        due(-1, ordersFault("read cold 0+cold3+deep 03 by 0"));
        due(10, ordersFault("read cold 4 by 0"));
        due(10, ordersFault("read cold by 0"));
        due(10, ordersFault("read deep time by 0"));
        due(5, ordersFault("read key by 0"));
        due(5, ordersFault("pass 1"));
        due(-1, ordersFault("pass times 3;pass if cold 0=deep 0 or not cold 1=deep 1"));
        due(-1, ordersFault("pass times 9 if " + fifty.substring(0, 95) + "=deep 3+time"));
        due(124, ordersFault("pass times 9 if " + fifty.substring(0, 95) + "=deep 3+time+1"));
        due(60, ordersFault("pass" + ";pass".repeat(12)));
    }

    private static void orders() {
        promise = 12;
        MissCurves x = new MissCurves();
        due(-6, orders(x, ""));
        due(0, x.fault());
        due(5, orders(x, "read 5 by 1;read 5 by 1;read latest+5 by 1 if latest=1;drop 5 by 1 if deep 1=2;pass if cold 1=2"));
        due(1, x.of(1, 0));
        due(6, x.top(1, 1));
        due(1, x.of(1, 4));
        due(1, x.count(11));
        due(5, x.count(3));
        due(0, orders(x, "pass if 1=2;pass if 1/0=1;read 1/0 by 0 if latest>0-1"));
        due(4, orders(x, "read done by done%2 times 4;read 9 by 9 times 20 if done<4"));
        due(2, x.of(0, 0));
        due(2, x.top(0, 1));
        due(3, x.top(1, 1));
        due(2, orders(x, "loop 10 to 13 by 2;loop 13 to 14 by 2 if latest=4"));
        due(5, x.of(2, 0));
        due(1, orders(x, "pass if time=1"));
        due(2, x.count(11));
        due(0, x.count(4));
        due(12, x.count(3));
        // Each word tells of its own TENANT.
        MissCurves w = new MissCurves();
        w.loop(0, 0, 4);
        w.loop(1, 0, 9);
        w.loop(2, 0, 14);
        w.loop(3, 0, 19);
        for (int t = 0; t < 4; t++) {
            w.drop(t, 0);
        }
        due(8, orders(w, "pass if cold 0<0;read cold 0*100 by 0;read cold 1*10 by 1;read cold 2+400 by 2;read cold 3+600 by 3;"
            + "read deep 0+800 by 0;read deep 1+800 by 1;read deep 2+800 by 2;read deep 3+800 by 3"));
        due(805, w.top(0, 1));
        due(500, w.top(0, 2));
        due(810, w.top(1, 1));
        due(100, w.top(1, 2));
        due(815, w.top(2, 1));
        due(415, w.top(2, 2));
        due(820, w.top(3, 1));
        due(620, w.top(3, 2));
        due(2, orders(w, "read 0 by 0;read time+latest+1 by 0 if not 0<latest"));
        due(1, w.top(0, 1));
        promise = 14;
        due(-1, x.stopped());
        String[] bad = {"read 1000 by 0", "read 1 by 4", "read 0-1 by 0", "read 1/0 by 0", "read 1 by 1%0", "loop 5 to 4 by 0", "loop 5 to 37 by 0",
            "loop 1 to 1/0 by 0", "loop 0 to 1/0 by 0", "loop 1/0 to 5 by 0", "loop 990 to 1000 by 0", "drop 77 by 0", "drop 1000 by 0", "pass times 20;read 9 by 9", "read 1000*1000*1000*2 by 0"};
        for (String s : bad) {
            due(-3, orders(x, "read 7 by 3 times 20;pass;" + s));
            due(s.startsWith("pass") ? 3 : 2, x.stopped());
            due(-1, x.fault());
            due(-3, x.status());
            due(0, x.of(3, 0));
            due(0, x.of(3, 3));
            due(2, x.count(11));
            due(12, x.count(3));
            due(0, x.count(4));
        }
        x.terms(0, 999);
        due(-3, orders(x, "pass"));
        due(0, x.stopped());
        due(-6, orders(x, "pass if"));
        due(-1, x.stopped());
        due(-3, orders(x, "read 1 by 1;pass"));
        due(1, x.stopped());
        due(0, orders(x, "pass if 1=2"));
        due(-1, x.stopped());
    }

    private static void force() {
        promise = 15;
        MissCurves x = new MissCurves();
        due(-2, x.force(0));
        due(-2, x.status());
        due(-1, x.force(-1));
        due(0, x.status());
        law(x, "costs 4");
        law(x, "costs 5");
        x.read(0, 0);
        due(-1, x.force(1));
        due(0, x.status());
        due(5, x.key(0, 0, 3));
        due(1, x.force(0));
        due(0, x.count(10));
        due(-2, x.force(2));
        due(-2, x.force(-2));
        due(-2, x.force(Integer.MAX_VALUE));
        due(0, x.force(-1));
        due(1, x.key(0, 0, 3));
        due(1, x.count(3));
        due(4, x.count(6));
    }

    private static void reads() {
        promise = 16;
        MissCurves x = new MissCurves();
        law(x, "costs key; costs 50+far if far>0; bars if key=9");
        x.force(0);
        due(0, x.read(0, 3));
        due(0, x.read(0, 4));
        due(2, x.read(0, 3));
        due(1, x.read(0, 3));
        due(0, x.read(0, 9));
        due(0, x.read(0, 9));
        due(25, x.of(0, 4));
        due(51, x.of(0, 5));
        due(52, x.of(0, 6));
        due(2, x.of(0, 0));
        due(4, x.of(0, 3));
        due(2, x.of(0, 1));
        due(6, x.count(3));
        int[][] bad = {{-1, 0}, {4, 0}, {0, -1}, {0, 1000}, {Integer.MAX_VALUE, Integer.MIN_VALUE}};
        for (int[] b : bad) {
            due(-1, x.read(b[0], b[1]));
            due(-1, x.status());
        }
        due(6, x.count(3));
        // The sample: HASHES of 0 .. 6 are 0, 617, 234, 851, 468, 85, 702.
        MissCurves y = reads(0, 0, 1, 2, 3, 4, 5);
        due(6, y.of(0, 1));
        due(1000, y.of(0, 2));
        y.read(0, 6);
        due(6, y.of(0, 1));
        due(851, y.of(0, 2));
        due(0, y.key(0, 3, 1));
        due(1, y.key(0, 6, 1));
        due(7, y.guess(0, 24));
        y.read(0, 3);
        due(0, y.key(0, 3, 1));
        due(7, y.guess(0, 0));
        // Place 6 of the SAMPLE by 851 is 7; 1,000,000 by 851 is 1,175.
        y.read(0, 0);
        due(8, y.guess(0, 6));
        due(7, y.guess(0, 7));
        y.read(0, 7);
        y.read(0, 8);
        due(702, y.of(0, 2));
        due(0, y.key(0, 6, 1));
        due(6, y.of(0, 1));
    }

    private static void loops() {
        promise = 17;
        MissCurves x = new MissCurves();
        due(32, x.loop(0, 0, 31));
        due(24, x.of(0, 0));
        due(31, x.top(0, 1));
        due(1, x.count(3));
        due(1, x.loop(0, 999, 999));
        due(0, x.loop(0, 31, 31));
        due(1, x.of(0, 6));
        int[][] bad = {{0, 0, 32}, {0, 5, 4}, {4, 0, 1}, {-1, 0, 1}, {0, -1, 3}, {0, 990, 1000}, {0, Integer.MIN_VALUE, Integer.MAX_VALUE}};
        for (int[] b : bad) {
            due(-1, x.loop(b[0], b[1], b[2]));
            due(-1, x.status());
        }
        due(3, x.count(3));
        law(x, "bars if key%2=0; costs reads*7+1");
        x.force(0);
        due(5, x.loop(1, 1, 5));
        due(2, x.loop(1, 1, 5));
        due(7, x.of(1, 4));
        due(24, x.of(1, 7));
    }

    private static void drops() {
        promise = 18;
        MissCurves x = reads(0, 1, 2, 3, 4);
        due(-3, x.drop(1, 1));
        due(-3, x.drop(0, 5));
        due(-3, x.status());
        due(-1, x.drop(0, 1000));
        due(-1, x.drop(4, 1));
        due(-1, x.drop(0, -1));
        due(3, x.drop(0, 2));
        due(0, x.status());
        due(3, x.of(0, 0));
        due(3, x.of(0, 1));
        due(1, x.top(0, 3));
        due(0, x.key(0, 2, 1));
        due(3, x.key(0, 1, 1));
        due(4, x.of(0, 3));
        due(1, x.drop(0, 4));
        due(2, x.drop(0, 1));
        due(1, x.drop(0, 3));
        due(0, x.of(0, 0));
        due(-3, x.drop(0, 3));
        due(0, x.read(0, 3));
        // A KEY that fell off the STACK can stay in the SAMPLE; it can't be dropped.
        MissCurves y = new MissCurves();
        y.read(0, 0);
        y.loop(0, 1, 30);
        due(0, y.key(0, 0, 0));
        due(1, Integer.signum(y.key(0, 0, 1)));
        due(-3, y.drop(0, 0));
        due(1, Integer.signum(y.key(0, 0, 1)));
    }

    private static void passes() {
        promise = 19;
        MissCurves x = reads(0, 1, 2, 3, 1, 2, 3, 3);
        x.read(3, 1);
        due(2, x.pass());
        due(1, x.of(0, 4));
        due(1, x.of(0, 7));
        due(0, x.of(0, 5));
        due(0, x.of(3, 4));
        due(1, x.count(11));
        due(3, x.guess(0, 0));
        due(3, x.of(0, 0));
        due(7, x.of(0, 3));
        due(0, x.pass());
        x.terms(0, 998);
        due(0, x.pass());
        due(-3, x.pass());
        due(-3, x.status());
        due(999, x.count(11));
    }

    private static void undoes() {
        promise = 20;
        MissCurves x = new MissCurves();
        due(-3, x.undo());
        due(-3, x.status());
        x.read(0, 1);
        x.loop(1, 1, 9);
        x.drop(1, 5);
        x.pass();
        x.read(9, 9);
        due(4, x.count(3));
        due(3, x.undo());
        due(0, x.count(11));
        due(9, x.of(1, 4));
        due(2, x.undo());
        due(5, x.key(1, 5, 0));
        due(1, x.undo());
        due(0, x.of(1, 0));
        due(0, x.of(1, 3));
        due(1000, x.of(1, 2));
        due(0, x.guess(1, 0));
        due(0, x.undo());
        due(-3, x.undo());
        for (int i = 0; i < 40; i++) {
            x.read(0, i);
        }
        due(16, x.count(3));
        due(1, orders(x, "read 40 by 0"));
        due(16, x.count(3));
        for (int i = 0; i < 16; i++) {
            due(0, x.undo());
        }
        due(-3, x.undo());
        due(24, x.top(0, 1));
        due(3, orders(x, "read 1 by 3;pass;loop 1 to 2 by 3"));
        due(0, x.status());
        due(1, x.undo());
        due(3, x.undo());
        due(1, x.of(3, 4));
        // What does not leave what can be undone.
        x.terms(9, 9);
        due(1, x.count(3));
        x.terms(2, 0);
        due(0, x.count(3));
        x.read(0, 0);
        due(-2, x.back(0));
        due(1, x.count(3));
        x.image(0);
        due(1, x.count(3));
        x.seen(0, 0);
        x.forget();
        x.months(3, 3);
        due(1, x.count(3));
        x.back(0);
        due(0, x.count(3));
        // 20 in one TEXT: 16 are kept; one that ends leaves those from ahead of it.
        due(20, orders(x, "read done by 2 times 20"));
        due(16, x.count(3));
        due(-3, orders(x, "read done by 1 times 20; read 9 by 9"));
        due(16, x.count(3));
        for (int i = 19; i >= 4; i--) {
            due(i, x.top(2, 1));
            due(0, x.undo());
        }
        due(-3, x.undo());
        due(4, x.of(2, 0));
    }

    /** All of a TENANT is brought back: the order of the SAMPLE, the RECORD, the last places of COSTS and PARTS. */
    private static void undoesAll() {
        promise = 20;
        MissCurves x = new MissCurves();
        x.loop(0, 0, 23);
        x.read(0, 0);
        due(1, x.of(0, 28));
        due(25, x.misses(0, 23));
        due(24, x.misses(0, 24));
        int[] places = new int[24];
        for (int k = 0; k < 24; k++) {
            places[k] = x.key(0, k, 1);
        }
        int guessed = x.guess(0, 23);
        x.loop(0, 1, 31);
        x.pass();
        due(12, x.of(0, 28));
        due(3, x.undo());
        due(1, x.undo());
        for (int k = 0; k < 24; k++) {
            due(places[k], x.key(0, k, 1));
        }
        due(guessed, x.guess(0, 23));
        due(25, x.of(0, 3));
        due(24, x.replay(0, 24));
        due(25, x.replay(0, 23));
        due(1, x.of(0, 28));
        // The RECORD goes on from its first: of 0 .. 33 the first two went, 2 .. 4 stand twice then.
        x.loop(1, 0, 31);
        x.loop(1, 32, 33);
        x.loop(1, 2, 4);
        due(32, x.of(1, 3));
        due(32, x.replay(1, 24));
        law(x, "costs reads");
        due(0, x.compare(0, 1, 1));
        due(1, x.compare(0, 1, 2));
        due(1, x.compare(0, 1, 5));
        due(1, x.compare(0, 1, 33));
        // Place 24 by the SAMPLE: LIMIT is 250, place 6 by it is 24.
        MissCurves y = new MissCurves();
        int[] keys = new int[7];
        int[] hashes = {0, 1, 2, 3, 4, 5, 250};
        for (int k = 0; k < 1000; k++) {
            for (int i = 0; i < 7; i++) {
                keys[i] = 617 * k % 1000 == hashes[i] ? k : keys[i];
            }
        }
        for (int k : keys) {
            y.read(0, k);
        }
        due(250, y.of(0, 2));
        due(6, y.key(0, keys[0], 1));
        y.read(0, keys[0]);
        due(11, y.guess(0, 23));
        due(7, y.guess(0, 24));
        y.pass();
        due(5, y.guess(0, 23));
        due(3, y.guess(0, 24));
        y.terms(3, 0);
        due(0, y.guess(0, 23));
    }

    private static void curves() {
        promise = 21;
        // Loops over 4 keys: reads 5 .. 12 are at place 4, then one at place 1, one at place 2.
        MissCurves x = reads(2, 0, 1, 2, 3, 0, 1, 2, 3, 0, 1, 2, 3, 3, 2);
        int[] misses = {14, 13, 12, 12, 4};
        for (int c = 0; c <= 24; c++) {
            due(misses[Math.min(c, 4)], x.misses(2, c));
        }
        due(-1, x.misses(2, -1));
        due(-1, x.misses(2, 25));
        due(-1, x.misses(4, 0));
        promise = 22;
        long[] hull = {14000, 11500, 9000, 6500, 4000};
        for (int c = 0; c <= 24; c++) {
            due(hull[Math.min(c, 4)], x.hull(2, c));
        }
        due(-1, x.hull(2, 25));
        due(-1, x.hull(2, -1));
        due(-1, x.hull(-1, 0));
        promise = 23;
        due(3, x.bend(2, -1));
        due(0, x.bend(2, 0));
        due(4, x.bend(2, 1));
        due(24, x.bend(2, 2));
        due(-1, x.bend(2, 3));
        due(-1, x.bend(2, -2));
        due(-1, x.bend(4, 0));
        due(2, x.bend(0, -1));
        promise = 24;
        report(x, 2, "0:14,4:4,24:4.");
        report(x, 0, "0:0,24:0.");
        due(-1, x.report(4));
        due(-1, x.report(-1));
        promise = 25;
        due('.', x.sign(8));
        due(-1, x.sign(9));
        x.report(2);
        x.image(0);
        x.back(0);
        x.read(2, 7);
        due('1', x.sign(2));
        // On one line: no BEND between; below it: one.
        MissCurves y = new MissCurves();
        law(y, "costs 0 if far=0; costs 6 if far=24; costs 3 if far=2; costs 4 if far=1");
        y.force(0);
        y.loop(0, 0, 23);
        y.read(0, 23);
        y.read(0, 22);
        y.read(0, 0);
        promise = 23;
        due(4, y.bend(0, -1));
        due(1, y.bend(0, 1));
        due(2, y.bend(0, 2));
        report(y, 0, "0:13,1:9,2:6,24:0.");
        promise = 22;
        due(5727, y.hull(0, 3));
        due(272, y.hull(0, 23));
    }

    /** Each size a BEND, and the longest reach of best shares. */
    private static void farthest() {
        MissCurves x = new MissCurves();
        law(x, "costs 0; costs 30-far if far>0");
        x.force(0);
        x.loop(1, 0, 23);
        int[] misses = new int[25];
        for (int p = 1; p <= 24; p++) {
            due(p, x.read(1, x.top(1, p)));
        }
        StringBuilder want = new StringBuilder();
        for (int c = 24; c >= 0; c--) {
            misses[c] = c == 24 ? 0 : misses[c + 1] + 29 - c;
        }
        promise = 23;
        due(25, x.bend(1, -1));
        for (int c = 0; c <= 24; c++) {
            promise = 23;
            due(c, x.bend(1, c));
            promise = 22;
            due(1000 * misses[c], x.hull(1, c));
            want.append(c == 0 ? "" : ",").append(c).append(":").append(misses[c]);
        }
        promise = 24;
        report(x, 1, want.append(".").toString());
        promise = 29;
        due(24, x.best(48, 1));
        due(0, x.best(48, -1));
        due(23, x.best(23, 1));
        due(6, x.best(23, -1));
        promise = 36;
        MissCurves y = new MissCurves();
        y.loop(0, 0, 23);
        y.loop(1, 0, 24);
        y.read(0, 0);
        // At all sizes but 24 both have 25.
        due(1, y.seen(0, 25));
        due(3, y.canBe());
        due(24, y.ask(0));
        due(1, y.ask(1));
        promise = 32;
        MissCurves z = new MissCurves();
        policy(z, "fifo");
        z.loop(0, 0, 23);
        z.read(0, 0);
        due(-1, z.spilt(0));
        z.read(0, 24);
        due(25, z.spilt(0));
        // The same with 24 and 25 places: those are not asked.
        z.loop(1, 0, 24);
        z.read(1, 0);
        z.read(1, 25);
        due(-1, z.spilt(1));
    }

    private static void samples() {
        promise = 26;
        MissCurves x = reads(1, 5, 5, 6, 5);
        due(4, x.guess(1, 0));
        due(3, x.guess(1, 1));
        due(2, x.guess(1, 2));
        due(2, x.guess(1, 24));
        due(-1, x.guess(1, 25));
        due(-1, x.guess(1, -1));
        due(-1, x.guess(4, 0));
        // KEYS 7 .. 13 first, so that LIMIT falls to the least that can be: HASHES 0 .. 6.
        MissCurves y = new MissCurves();
        int[] low = new int[7];
        for (int k = 0; k < 1000; k++) {
            if (617 * k % 1000 < 7) {
                low[617 * k % 1000] = k;
            }
        }
        law(y, "costs 99");
        y.force(0);
        for (int k : low) {
            y.read(0, k);
        }
        due(6, y.of(0, 2));
        due(6, y.of(0, 1));
        due(693, y.guess(0, 24));
        // 99,000,000 by 6 is 16,500,000 PARTS; place 1 by 6 thousandths is 166, farther.
        y.read(0, low[5]);
        due(17193, y.guess(0, 24));
        // HASHES 0 .. 6 of KEYS that one loop reads often: GUESS is 2,000,000,000 at most.
        MissCurves z = new MissCurves();
        law(z, "costs 99");
        z.force(0);
        for (int k : low) {
            z.read(0, k);
        }
        for (int i = 0; i < 60; i++) {
            due(240, orders(z, ("read " + low[i % 6] + " by 0 times 20;").repeat(11) + "read " + low[0] + " by 0 times 20"));
        }
        due(237600693, z.guess(0, 0));
        for (int i = 0; i < 450; i++) {
            due(240, orders(z, ("read " + low[0] + " by 0 times 20;").repeat(11) + "read " + low[0] + " by 0 times 20"));
        }
        due(2000000000, z.guess(0, 0));
        due(2000000000, z.guess(0, 24));
        promise = 27;
        due(4000, x.salted(1, 1000));
        due(4, x.salted(1, 1));
        due(1732, x.salted(1, 433));
        due(0, x.salted(0, 433));
        due(-1, x.salted(1, 0));
        due(-1, x.salted(1, 1001));
        due(-1, x.salted(4, 5));
        x.loop(1, 0, 31);
        x.loop(1, 0, 31);
        due(3200, x.salted(1, 100));
    }

    private static void deals() {
        // TENANT 1 falls by 10 over 4 places, TENANT 2 by 3 over its first, TENANT 3 by 5 over 2.
        MissCurves x = reads(1, 0, 1, 2, 3, 0, 1, 2, 3, 0, 1, 2, 3, 0, 1);
        for (int i = 0; i < 4; i++) {
            x.read(2, 9);
        }
        for (int i = 0; i < 7; i++) {
            x.read(3, i % 2);
        }
        promise = 28;
        int[][] shares = {{0, 0, 0, 0}, {0, 0, 1, 0}, {0, 1, 1, 0}, {0, 2, 1, 0}, {0, 3, 1, 0}, {0, 4, 1, 0}, {0, 4, 1, 1}, {0, 4, 1, 2}, {1, 4, 1, 2}};
        for (int s = 0; s < shares.length; s++) {
            for (int t = 0; t < 4; t++) {
                due(shares[s][t], x.share(s, t));
            }
        }
        due(24, x.share(48, 0));
        due(21, x.share(48, 1));
        due(-1, x.share(49, 0));
        due(-1, x.share(-1, 0));
        due(-1, x.share(5, 4));
        due(-1, x.share(5, -1));
        promise = 29;
        int[][] best = {{0, 0, 0, 0, 25}, {0, 0, 1, 0, 22}, {0, 0, 0, 2, 20}, {0, 0, 1, 2, 17}, {0, 4, 0, 0, 15}, {0, 4, 1, 0, 12}, {0, 4, 0, 2, 10},
            {0, 4, 1, 2, 7}, {0, 4, 1, 2, 7}};
        for (int s = 0; s < best.length; s++) {
            for (int t = 0; t < 4; t++) {
                due(best[s][t], x.best(s, t));
            }
            due(best[s][4], x.best(s, -1));
        }
        due(7, x.best(48, -1));
        due(0, x.best(48, 0));
        due(4, x.best(48, 1));
        due(-1, x.best(49, 0));
        due(-1, x.best(-1, -1));
        due(-1, x.best(5, 4));
        due(-1, x.best(5, -2));
        // Alike ones: the first row of sizes is the one that gives least to the first TENANTS.
        MissCurves y = reads(0, 1, 1);
        y.read(3, 1);
        y.read(3, 1);
        due(0, y.best(1, 0));
        due(1, y.best(1, 3));
        due(3, y.best(1, -1));
        promise = 28;
        due(1, y.share(1, 0));
        due(0, y.share(1, 3));
    }

    private static void replays() {
        promise = 30;
        MissCurves x = reads(0, 1, 2, 3, 4, 1, 2, 5, 1, 2, 3, 4, 5);
        int[][] misses = {{12, 12, 12, 10, 8, 5}, {12, 12, 10, 7, 6, 5}, {12, 12, 12, 9, 10, 5}, {12, 12, 11, 10, 8, 5}, {12, 12, 9, 7, 6, 5}};
        String[] names = {"lru", "mru", "fifo", "lfu", "min"};
        for (int p = 0; p < 5; p++) {
            policy(x, names[p]);
            for (int c = 0; c <= 24; c++) {
                due(misses[p][Math.min(c, 5)], x.replay(0, c));
            }
        }
        due(-1, x.replay(0, 25));
        due(-1, x.replay(0, -1));
        due(-1, x.replay(4, 0));
        due(0, x.replay(1, 0));
        promise = 31;
        policy(x, "fifo");
        due(3, x.odd(0));
        due(-1, x.odd(1));
        due(-1, x.odd(4));
        due(-1, x.odd(-1));
        policy(x, "lru");
        due(-1, x.odd(0));
        policy(x, "min");
        due(-1, x.odd(0));
        promise = 32;
        policy(x, "lru");
        due(-1, x.spilt(0));
        // By fifo with 3 places behind READ 6 (of 5) 1 2 5 are held, with 4 places 2 3 4 5.
        policy(x, "fifo");
        due(6, x.spilt(0));
        due(-1, x.spilt(1));
        due(-1, x.spilt(4));
        due(-1, x.spilt(-1));
        // lfu: 1 1 2 3 with 2 places: 2 leaves; of alike ones that read longest ago does.
        promise = 30;
        MissCurves y = reads(0, 1, 1, 2, 3, 2, 1);
        policy(y, "lfu");
        due(4, y.replay(0, 2));
        // How often is told from the RECORD's beginning, held or not: 3 (read twice) stays ahead of 1.
        MissCurves z = reads(0, 3, 1, 2, 2, 3, 4, 3);
        policy(z, "lfu");
        due(5, z.replay(0, 2));
        MissCurves m = reads(0, 1, 2, 3, 2, 1, 3);
        policy(m, "mru");
        due(5, m.replay(0, 2));
        policy(m, "min");
        due(4, m.replay(0, 2));
        // min: of KEYS that are never read again the lowest leaves, so with 2 places 8 is not there when 9 comes.
        MissCurves n = reads(0, 9, 8, 7);
        policy(n, "min");
        due(3, n.replay(0, 2));
        due(-1, n.spilt(0));
        MissCurves r = new MissCurves();
        r.loop(0, 0, 31);
        r.read(0, 0);
        due(32, r.replay(0, 24));
    }

    private static void whichTenant() {
        promise = 33;
        MissCurves x = reads(0, 1, 1, 1);
        x.read(1, 1);
        x.read(1, 2);
        x.read(1, 1);
        x.read(2, 5);
        due(7, x.count(3));
        due(1, x.seen(0, 3));
        due(7, x.count(3));
        due(0, x.status());
        int[][] bad = {{-1, 0}, {25, 0}, {0, -1}, {0, 100000}};
        for (int[] b : bad) {
            due(-1, x.seen(b[0], b[1]));
            due(-1, x.status());
        }
        promise = 35;
        due(3, x.canBe());
        promise = 36;
        due(1, x.ask(0));
        due(1, x.ask(1));
        due(-1, x.ask(2));
        due(-1, x.ask(-1));
        due(2, x.seen(24, 2));
        promise = 35;
        due(2, x.canBe());
        promise = 36;
        due(0, x.ask(0));
        due(1, x.ask(1));
        promise = 33;
        due(3, x.seen(24, 99999));
        due(0, x.canBe());
        due(-1, x.ask(0));
        due(-1, x.ask(1));
        due(4, x.seen(24, 0));
        due(5, x.seen(24, 0));
        due(6, x.seen(0, 0));
        due(-5, x.seen(0, 0));
        due(-5, x.status());
        due(-1, x.seen(25, 0));
        due(6, x.count(1));
        promise = 34;
        due(6, x.forget());
        due(0, x.forget());
        due(0, x.count(1));
        due(-1, x.status());
        due(15, x.canBe());
        promise = 36;
        // MISSES at 0: 3 3 1 0, at 1: 1 3 1 0, from 2 on: 1 2 1 0.
        due(0, x.ask(0));
        due(2, x.ask(1));
    }

    private static void chances() {
        promise = 37;
        MissCurves x = new MissCurves();
        due(1000000000000L, x.few(1, 0));
        due(900000000000L, x.few(1, 1));
        due(810000000000L, x.few(1, 2));
        due(1000000000000L, x.few(3, 2));
        x.terms(1, 0);
        due(1000000000000L, x.few(1, 99));
        x.terms(1, 10);
        due(0, x.few(20, 99));
        due(0, x.few(1, 1));
        due(1000000000000L, x.few(20, 19));
        due(0, x.few(20, 20));
        x.terms(1, 3);
        due(343000000000L, x.few(1, 3));
        due(784000000000L, x.few(2, 3));
        // Each of both parts is cut by itself: 0.7 to the 13th is 0.0096889010407, to the 14th 0.00678223072849.
        due(9688901040L, x.few(1, 13));
        due(6782230728L, x.few(1, 14));
        due(-1, x.few(0, 1));
        due(-1, x.few(21, 1));
        due(-1, x.few(1, -1));
        due(-1, x.few(1, 100));
        due(1, Long.signum(x.few(20, 99)));
    }

    private static void compared() {
        promise = 38;
        MissCurves x = reads(3, 8, 8, 9);
        law(x, "costs far+reads*10; bars");
        law(x, "costs 7");
        due(22, x.compare(0, 3, 8));
        due(11, x.compare(0, 3, 9));
        due(0, x.compare(0, 2, 9));
        due(7, x.compare(1, 3, 8));
        due(1, x.compare(-1, 3, 8));
        x.force(1);
        due(22, x.compare(0, 3, 8));
        due(1, x.compare(-1, 3, 8));
        due(-1, x.compare(2, 3, 8));
        due(-1, x.compare(-2, 3, 8));
        due(-1, x.compare(0, 4, 8));
        due(-1, x.compare(0, 3, 1000));
        due(-1, x.compare(0, 3, -1));
        due(0, x.count(6));
    }

    private static void months() {
        promise = 39;
        MissCurves x = new MissCurves();
        int[][] bad = {{-1, 1}, {1000001, 1}, {0, 0}, {0, 61}};
        for (int[] b : bad) {
            due(-1, x.months(b[0], b[1]));
            due(-1, x.status());
        }
        promise = 40;
        due(-1, x.drawn(0, 0));
        promise = 39;
        Naive naive = new Naive();
        int[][] seeds = {{0, 1}, {1000000, 60}, {77, 60}, {4711, 33}, {5, 60}};
        for (int[] s : seeds) {
            due(naive.months(s[0], s[1]), x.months(s[0], s[1]));
            due(0, x.status());
            for (int t = 0; t < 4; t++) {
                for (int c = 0; c <= 24; c++) {
                    due(naive.drawn(t, c), x.drawn(t, c));
                }
            }
        }
        due(0, x.of(0, 3) + x.of(1, 3) + x.of(2, 3) + x.of(3, 3));
        due(0, x.count(11));
        promise = 40;
        due(-1, x.drawn(4, 0));
        due(-1, x.drawn(0, 25));
        due(-1, x.drawn(0, -1));
        int kept = x.drawn(1, 0);
        x.months(-1, 1);
        x.read(1, 1);
        x.image(0);
        x.back(0);
        due(kept, x.drawn(1, 0));
        // At TIME 999 it ends.
        promise = 39;
        x.terms(0, 999);
        due(0, x.months(3, 60));
        due(1, x.drawn(1, 0));
        law(x, "bars");
        x.force(0);
        x.terms(0, 0);
        due(1, x.months(0, 1));
        due(2, x.drawn(1, 24));
    }

    private static void images() {
        promise = 41;
        MissCurves x = reads(0, 1, 2, 3);
        due(-1, x.image(2));
        due(-1, x.image(-1));
        due(-1, x.status());
        promise = 42;
        due(-2, x.back(0));
        due(-2, x.back(1));
        due(-2, x.status());
        due(-1, x.back(2));
        due(-1, x.back(-1));
        promise = 41;
        law(x, "costs 5");
        policy(x, "lfu");
        x.force(0);
        x.seen(3, 3);
        x.terms(0, 10);
        x.terms(1, 2);
        x.terms(2, 3);
        x.read(1, 7);
        due(0, x.image(0));
        due(0, x.status());
        due(1, x.count(3));
        law(x, "costs 6");
        x.force(1);
        policy(x, "mru");
        x.seen(4, 4);
        x.terms(3, 44);
        x.terms(2, 9);
        x.terms(1, 9);
        x.pass();
        x.loop(0, 0, 30);
        due(0, x.image(1));
        due(-6, law(x, "costs 1 ,"));
        tell(x, "costs 9");
        promise = 42;
        due(0, x.back(0));
        due(0, x.status());
        due(8, x.fault());
        due(7, x.count(4));
        int[] counts = {3, 1, 1, 0};
        for (int i = 0; i < 4; i++) {
            due(counts[i], x.count(i));
        }
        due(0, x.count(10));
        due(10, x.count(11));
        due(2, x.count(12));
        due(3, x.count(13));
        due(0, x.count(14));
        due(3, x.of(0, 1));
        due(3, x.guess(0, 0));
        due(5, x.of(1, 4));
        due(-3, x.undo());
        due(1, x.law());
        due(9, x.compare(1, 0, 0));
        due(0, x.back(1));
        due(2, x.count(2));
        due(6, x.compare(1, 0, 0));
        due(44, x.count(14));
        due(24, x.of(0, 0));
        due(0, x.back(0));
        due(3, x.of(0, 0));
        x.read(0, 50);
        due(0, x.back(0));
        due(3, x.of(0, 0));
    }

    /** An IMAGE keeps its own LAWS. */
    private static void imagesOfLaws() {
        promise = 42;
        MissCurves x = new MissCurves();
        x.image(0);
        law(x, "costs 5");
        law(x, "costs 15");
        x.image(1);
        x.back(0);
        due(0, x.count(2));
        due(-1, x.compare(0, 0, 0));
        law(x, "costs 6");
        due(-1, x.compare(1, 0, 0));
        x.back(1);
        due(5, x.compare(0, 0, 0));
        due(15, x.compare(1, 0, 0));
    }

    private static void counts() {
        promise = 43;
        MissCurves x = new MissCurves();
        due(-1, x.count(-1));
        due(-1, x.count(15));
        x.read(4, 0);
        x.terms(4, 0);
        x.loop(0, 1, 0);
        x.drop(0, -1);
        x.seen(25, 0);
        x.months(0, 0);
        x.image(5);
        x.back(5);
        due(8, x.count(5));
        x.force(3);
        x.back(1);
        due(2, x.count(6));
        x.undo();
        x.drop(0, 1);
        orders(x, "read 9 by 9");
        x.terms(0, 999);
        x.pass();
        due(4, x.count(7));
        for (int i = 0; i < 7; i++) {
            x.seen(0, 0);
            law(x, "bars");
        }
        due(2, x.count(8));
        x.row();
        x.policy();
        x.orders();
        x.image(0);
        x.back(0);
        due(3, x.count(9));
        due(8, x.count(5));
        x.of(9, 9);
        x.feed(0, 0, 0, 0, 0);
        x.end(21);
        x.compare(9, 9, 9);
        x.best(99, 9);
        x.drawn(9, 9);
        due(8, x.count(5));
        due(2, x.count(6));
        due(20, x.count(4));
        due(6, x.count(1));
        due(6, x.count(2));
        promise = 44;
        due(0, x.status());
        x.read(4, 0);
        due(-1, x.status());
        x.of(9, 9);
        x.feed(0, 0, 0, 0, 0);
        x.end(0);
        x.forget();
        x.misses(0, 0);
        x.ask(0);
        due(-1, x.status());
        x.force(7);
        due(-2, x.status());
        x.force(-1);
        due(0, x.status());
        x.pass();
        due(-3, x.status());
        x.read(0, 0);
        due(0, x.status());
        x.undo();
        due(0, x.status());
        x.undo();
        due(-3, x.status());
        x.law();
        due(-5, x.status());
        x.row();
        due(-6, x.status());
        x.image(0);
        due(0, x.status());
    }

    public static void main(String[] args) {
        newObject();
        ofAndTop();
        key();
        terms();
        tape();
        row();
        policy();
        laws();
        faults();
        orders();
        force();
        reads();
        loops();
        drops();
        passes();
        undoes();
        undoesAll();
        curves();
        farthest();
        samples();
        deals();
        replays();
        whichTenant();
        chances();
        compared();
        months();
        images();
        imagesOfLaws();
        counts();
        System.out.println(asked + " answers, " + wrong + " not as due");
        if (wrong != 0) {
            System.exit(1);
        }
    }
}
