import java.util.Map;

/** The boundary cases that promises 1 to 44 name, and what the document says of an object's calls: a test for each sentence. */
public final class PromisesEdgesTest {
    private static final Edges edges = new Edges();
    private static final int LEAST = Integer.MIN_VALUE;
    private static final int MOST = Integer.MAX_VALUE;

    private static void sentence(String quote) {
        edges.sentence(quote);
    }

    private static void due(long want, long got) {
        edges.due(want, got);
    }

    private static void calls() {
        sentence("An object is used for at most 512 calls after it has been made");
        MissCurves x = new MissCurves();
        for (int i = 0; i < 511; i++) {
            due(i == 0 ? 0 : 1, x.read(0, 5));
        }
        due(510, x.of(0, 5));
        sentence("NONE = -1: There is none.");
        due(-1, MissCurves.NONE);
    }

    private static void newObject() {
        sentence("Nothing was read.");
        MissCurves x = new MissCurves();
        for (int t = 0; t < 4; t++) {
            for (int what = 0; what <= 28; what++) {
                due(what == 2 ? 1000 : 0, x.of(t, what));
            }
            due(-1, x.top(t, 1));
        }
        int[] counts = {0, 0, 0, 0, 0, 0, 0, 0, 0, 0, -1, 0, 1, 0, 0};
        for (int what = 0; what < counts.length; what++) {
            due(counts[what], x.count(what));
        }
        due(0, x.status());
        // One object knows nothing of another one.
        Edges.rich(new MissCurves());
        Map<String, Long> want = Edges.look(Edges.NOTHING);
        MissCurves other = new MissCurves();
        Edges.rich(other);
        Map<String, Long> got = Edges.look(Edges.NOTHING);
        for (Map.Entry<String, Long> e : want.entrySet()) {
            due(e.getValue(), got.get(e.getKey()));
        }
    }

    // What stands.

    private static void of() {
        sentence("Of a TENANT how many KEYS are in the STACK (what 0), in the SAMPLE (1), LIMIT (2), how many READS are in the RECORD (3), COSTS of COLD reads (4), COSTS of place c (4 + c). NONE.");
        MissCurves x = new MissCurves();
        x.loop(3, 0, 24);
        x.read(3, 1);
        x.read(3, 1);
        due(24, x.of(3, 0));
        due(6, x.of(3, 1));
        // The seven lowest HASHES of 0 .. 24 are those of 0 13 18 5 10 23 2: 0 21 106 85 170 191 234.
        due(234, x.of(3, 2));
        due(27, x.of(3, 3));
        due(25, x.of(3, 4));
        due(1, x.of(3, 5));
        due(0, x.of(3, 6));
        due(0, x.of(3, 27));
        due(1, x.of(3, 28));
        for (int what : new int[] {-1, 29, LEAST, MOST}) {
            edges.none(y -> y.of(0, what));
        }
        for (int t : Edges.NO_TENANTS) {
            edges.none(y -> y.of(t, 0));
            edges.none(y -> y.of(t, 28));
        }
    }

    private static void top() {
        sentence("The KEY in a place 1 .. 24 of a STACK. NONE.");
        MissCurves x = new MissCurves();
        x.loop(3, 0, 23);
        due(23, x.top(3, 1));
        due(0, x.top(3, 24));
        due(-1, x.top(2, 1));
        x.drop(3, 5);
        due(0, x.top(3, 23));
        due(-1, x.top(3, 24));
        for (int place : new int[] {0, 25, -1, LEAST, MOST}) {
            edges.none(y -> y.top(0, place));
        }
        for (int t : Edges.NO_TENANTS) {
            edges.none(y -> y.top(t, 1));
        }
        edges.none(y -> y.top(3, 2));
    }

    private static void key() {
        sentence("Of a TENANT and a KEY its place in the STACK (what 0; 0: not there), in the SAMPLE (1; 0), HASH (2), what a miss COSTS, if it were read now (3), whether BARRED (4: 1, 0). NONE.");
        MissCurves x = Edges.under("costs 10+far;bars if key=999");
        x.loop(3, 0, 24);
        due(0, x.key(3, 0, 0));
        due(24, x.key(3, 1, 0));
        due(1, x.key(3, 24, 0));
        due(0, x.key(3, 24, 1));
        due(0, x.key(3, 1, 1));
        due(6, x.key(3, 0, 1));
        due(808, x.key(3, 24, 2));
        due(10, x.key(3, 0, 3));
        due(34, x.key(3, 1, 3));
        due(0, x.key(3, 1, 4));
        due(1, x.key(3, 999, 4));
        due(10, x.key(3, 999, 3));
        // What is asked is asked of that TENANT, not of another one.
        MissCurves own = Edges.under("costs 20+tenant;bars if tenant=2 or far=1");
        own.read(1, 5);
        for (int t = 0; t < 4; t++) {
            due(20 + t, own.key(t, 5, 3));
            due(t == 1 || t == 2 ? 1 : 0, own.key(t, 5, 4));
            due(t == 2 ? 1 : 0, own.key(t, 6, 4));
            due(t == 1 ? 1 : 0, own.key(t, 5, 0));
            due(t == 1 ? 1 : 0, own.key(t, 5, 1));
        }
        for (int what : new int[] {-1, 5, LEAST, MOST}) {
            edges.none(y -> y.key(0, 5, what));
        }
        for (int what = 0; what <= 4; what++) {
            int one = what;
            for (int t : Edges.NO_TENANTS) {
                edges.none(y -> y.key(t, 5, one));
            }
            for (int k : Edges.NO_KEYS) {
                edges.none(y -> y.key(0, k, one));
            }
        }
    }

    private static void terms() {
        sentence("A TERM: what it was. -1.");
        MissCurves x = new MissCurves();
        due(0, x.terms(0, 999));
        due(999, x.terms(0, 0));
        due(0, x.terms(0, 0));
        due(1, x.terms(1, 10));
        due(10, x.terms(1, 10));
        due(0, x.terms(2, 9));
        due(0, x.terms(3, 999));
        due(999, x.terms(3, 999));
        due(0, x.status());
        for (int what : new int[] {-1, 4, LEAST, MOST}) {
            for (int value : new int[] {0, -1, 1}) {
                edges.refused(-1, Edges::rich, y -> y.terms(what, value));
            }
        }
    }

    // The TAPE.

    private static void feed() {
        sentence("Twenty bytes come behind the TAPE, four of each number, the highest first: how many it has.");
        MissCurves x = new MissCurves();
        due(20, x.feed(0x000001FF, 0x02FE03FD, 0xFF000080, 0x00000000, 0x0301FFFF));
        due(8, x.row());
        due(2, x.blanks());
        due(1, x.of(1, 0));
        due(255, x.top(1, 1));
        due(254, x.top(2, 1));
        due(1, x.top(3, 1));
        due(253, x.top(3, 2));
        due(0, x.top(0, 1));
        due(128, x.top(0, 2));
        // The TAPE may have any length ahead of it.
        Edges.tell(x, "mi");
        due(22, x.feed(0x6E202020, 0x20202020, 0x20202020, 0x20202020, 0x20202020));
        due(4, x.policy());
        sentence("NONE, if there would be more than 400.");
        for (int length : new int[] {400, 399, 381}) {
            Edges.Setup full = y -> Edges.tell(y, " ".repeat(length));
            MissCurves y = new MissCurves();
            full.on(y);
            due(-1, y.feed(-1, -1, -1, -1, -1));
            due(length, y.count(4));
            due(0, y.status());
            due(0, y.count(5));
            due(-6, y.policy());
            due(length, y.fault());
        }
        MissCurves z = new MissCurves();
        Edges.tell(z, " ".repeat(380));
        due(400, z.feed(0x20202020, 0x20202020, 0x20202020, 0x20202020, 0x206C7275));
        due(0, z.policy());
    }

    private static void end() {
        sentence("The TAPE has its first n bytes alone: n.");
        MissCurves x = new MissCurves();
        due(0, x.end(0));
        Edges.tell(x, "fifo lru");
        due(8, x.end(8));
        due(4, x.end(4));
        due(2, x.policy());
        Edges.tell(x, " ".repeat(400));
        due(400, x.end(400));
        due(399, x.end(399));
        due(0, x.end(0));
        due(0, x.count(4));
        sentence("NONE, if it has not so many, or n is below 0.");
        for (int n : new int[] {6, -1, 401, LEAST, MOST}) {
            edges.none(y -> y.end(n));
        }
        due(-1, new MissCurves().end(1));
        due(0, x.status());
    }

    private static void row() {
        sentence("A ROW, the TAPE is empty then: how many READS came.");
        MissCurves x = new MissCurves();
        Edges.rich(x);
        due(2, x.row());
        due(1, x.blanks());
        due(0, x.count(4));
        due(0, x.status());
        sentence("-6 the TAPE is empty.");
        edges.refused(-6, y -> {
            Edges.rich(y);
            y.end(0);
        }, MissCurves::row);
        edges.refused(-6, Edges.NOTHING, MissCurves::row);
        sentence("How many BLANKS the latest row() had that was not REFUSED (0 ahead of any).");
        MissCurves y = new MissCurves();
        due(0, y.blanks());
        y.row();
        due(0, y.blanks());
        Edges.tell(y, "\u0004\u0000\u0005");
        due(0, y.row());
        due(2, y.blanks());
        y.row();
        due(2, y.blanks());
        Edges.tell(y, "\u0000\u0000");
        due(1, y.row());
        due(0, y.blanks());
    }

    private static void policy() {
        sentence("The TAPE, which is empty then, tells the POLICY: its number.");
        MissCurves x = new MissCurves();
        Edges.rich(x);
        due(4, Edges.policy(x, "min"));
        due(0, x.count(4));
        due(4, x.count(0));
        due(0, x.status());
        due(-1, x.fault());
        due(1, x.stopped());
        sentence("-6 (blanks alone: FAULT at the end).");
        edges.refusedPolicy(1, " ");
        edges.refusedPolicy(20, " ".repeat(20));
        edges.refusedPolicy(0, "");
        edges.refusedPolicy(0, "lrux");
        edges.refusedPolicy(4, "lru x");
        sentence("It leaves what can be undone.");
        MissCurves y = new MissCurves();
        Edges.rich(y);
        due(5, y.count(3));
        Edges.policy(y, "mru");
        due(5, y.count(3));
        due(0, y.undo());
        due(3, y.undo());
        due(1, y.count(0));
    }

    private static void law() {
        sentence("The TAPE, which is empty then, becomes a LAW: its number.");
        MissCurves x = new MissCurves();
        Edges.rich(x);
        due(2, Edges.law(x, "costs 8"));
        due(0, x.count(4));
        due(3, x.count(2));
        due(-1, x.fault());
        due(8, x.compare(2, 0, 0));
        due(0, x.count(10));
        due(5, x.count(3));
        due(3, Edges.law(x, "costs 8"));
        due(4, Edges.law(x, "costs 8"));
        due(5, Edges.law(x, "costs 9"));
        due(9, x.compare(5, 0, 0));
        sentence("-5 (ahead of reading it; the TAPE is empty then, too); -6.");
        for (String text : new String[] {"bars", "nothing", "", "  "}) {
            edges.refusedText(-5, 4, 1, y -> {
                Edges.rich(y);
                for (int i = 0; i < 4; i++) {
                    Edges.law(y, "costs 8");
                }
                Edges.policy(y, "lru mru");
                Edges.tell(y, text);
            }, MissCurves::law);
            if (!text.equals("bars")) {
                edges.refusedLaw(text.equals("  ") ? 2 : 0, text);
            }
        }
        sentence("It leaves what can be undone.");
        due(5, x.count(3));
        due(0, x.undo());
        due(6, x.count(2));
    }

    private static void orders() {
        sentence("ORDERS, the TAPE is empty then: how many were run.");
        MissCurves x = new MissCurves();
        due(240, Edges.orders(x, "pass times 20;".repeat(11) + "pass times 20"));
        due(240, x.count(11));
        due(0, x.count(4));
        due(0, Edges.orders(x, "pass if 1=2"));
        due(0, x.status());
        due(16, x.count(3));
        sentence("-3 one can't be; -6.");
        edges.stoppedOrders(0, "drop 999 by 3");
        edges.stoppedOrders(2, "pass;pass;read 1 by 4");
        edges.refusedOrders(5, "pass;");
        // A TEXT that can't be is not run, not even ahead of its FAULT.
        edges.refusedOrders(12, "read 1 by 4;nothing");
        edges.refusedOrders(5, "pass;nothing");
        sentence("Which CLAUSE of the latest orders() could not be. NONE.");
        MissCurves y = new MissCurves();
        due(-1, y.stopped());
        Edges.orders(y, "pass;pass;drop 1 by 0");
        due(2, y.stopped());
        Edges.policy(y, "nothing");
        Edges.law(y, "nothing");
        y.drop(0, 0);
        due(2, y.stopped());
        Edges.orders(y, "nothing");
        due(-1, y.stopped());
        Edges.orders(y, "read 1 by 0;".repeat(11) + "read 1 by 4");
        due(11, y.stopped());
        Edges.orders(y, "read 1 by 4");
        due(0, y.stopped());
        Edges.orders(y, "pass");
        due(-1, y.stopped());
    }

    private static void fault() {
        sentence("FAULT of the latest policy(), law(), orders() that read a TEXT: its place; NONE without.");
        MissCurves x = new MissCurves();
        due(-1, x.fault());
        Edges.policy(x, " x");
        due(1, x.fault());
        Edges.law(x, "bars x");
        due(5, x.fault());
        Edges.orders(x, "pass;  x");
        due(7, x.fault());
        x.row();
        x.read(4, 4);
        x.force(9);
        due(7, x.fault());
        Edges.policy(x, "lru");
        due(-1, x.fault());
        Edges.law(x, "");
        due(0, x.fault());
        Edges.law(x, "bars");
        due(-1, x.fault());
        Edges.orders(x, "pass pass");
        due(5, x.fault());
        Edges.orders(x, "pass");
        due(-1, x.fault());
        Edges.law(x, "bars x");
        // ORDERS that can't be run were read without a FAULT.
        due(-3, Edges.orders(x, "read 1 by 9"));
        due(-1, x.fault());
        for (int i = 1; i < 6; i++) {
            Edges.law(x, "bars");
        }
        Edges.policy(x, "     x");
        due(-5, Edges.law(x, "bars"));
        due(5, x.fault());
    }

    private static void force() {
        sentence("A LAW is in FORCE (NONE: none): which was. -2.");
        MissCurves x = new MissCurves();
        due(-1, x.force(-1));
        due(0, x.status());
        edges.refused(-2, Edges.NOTHING, y -> y.force(0));
        for (int i = 0; i < 6; i++) {
            Edges.law(x, "costs " + (10 + i));
        }
        due(-1, x.force(0));
        due(0, x.force(5));
        due(15, x.key(0, 0, 3));
        due(5, x.force(5));
        due(5, x.force(-1));
        due(1, x.key(0, 0, 3));
        due(-1, x.count(10));
        for (int law : new int[] {2, -2, 6, LEAST, MOST}) {
            edges.refused(-2, Edges::rich, y -> y.force(law));
        }
        sentence("It leaves what can be undone.");
        MissCurves y = new MissCurves();
        Edges.rich(y);
        y.force(1);
        due(5, y.count(3));
        due(0, y.undo());
        due(1, y.count(10));
    }

    // What is done, and undone.

    private static void read() {
        sentence("To READ: the place at which the KEY was (0: COLD, or BARRED). -1.");
        MissCurves x = Edges.under("bars if key=7 and reads>0");
        due(0, x.read(0, 7));
        due(0, x.read(0, 7));
        x.loop(0, 100, 122);
        due(23, x.read(0, 100));
        due(0, x.read(0, 7));
        due(23, x.read(0, 101));
        MissCurves y = new MissCurves();
        y.loop(3, 0, 23);
        due(24, y.read(3, 0));
        due(1, y.read(3, 0));
        due(0, y.read(3, 24));
        due(0, y.read(3, 1));
        for (int t : Edges.NO_TENANTS) {
            edges.refused(-1, Edges::rich, z -> z.read(t, 0));
        }
        for (int k : Edges.NO_KEYS) {
            edges.refused(-1, Edges::rich, z -> z.read(0, k));
        }
    }

    private static void loop() {
        sentence("To LOOP: how many were COLD (or BARRED). -1 (more than 32, to a lower KEY, too).");
        MissCurves x = Edges.under("bars if key=30");
        due(32, x.loop(0, 0, 31));
        due(31, x.of(0, 3));
        due(32, x.loop(0, 0, 31));
        due(0, x.loop(0, 31, 31));
        due(1, x.loop(0, 30, 30));
        due(1, x.loop(0, 29, 31));
        due(32, x.loop(1, 968, 999));
        for (int[] one : new int[][] {{0, 32}, {1, 33}, {967, 999}, {5, 4}, {999, 998}, {-1, 5}, {-1, -1}, {1000, 1000}, {990, 1000}, {999, 1000},
            {0, 999}, {LEAST, 0}, {0, MOST}, {LEAST, MOST}, {MOST, LEAST}}) {
            edges.refused(-1, Edges::rich, y -> y.loop(0, one[0], one[1]));
        }
        for (int t : Edges.NO_TENANTS) {
            edges.refused(-1, Edges::rich, y -> y.loop(t, 0, 0));
        }
    }

    private static void drop() {
        sentence("To DROP: the place at which it was. -1; -3 it is not in the STACK.");
        MissCurves x = new MissCurves();
        x.loop(3, 976, 999);
        due(24, x.drop(3, 976));
        due(1, x.drop(3, 999));
        due(22, x.of(3, 0));
        due(-3, x.drop(3, 999));
        for (int t : Edges.NO_TENANTS) {
            edges.refused(-1, Edges::rich, y -> y.drop(t, 5));
        }
        for (int k : Edges.NO_KEYS) {
            edges.refused(-1, Edges::rich, y -> y.drop(0, k));
        }
        edges.refused(-3, Edges::rich, y -> y.drop(0, 999));
        edges.refused(-3, Edges::rich, y -> y.drop(1, 12));
        edges.refused(-3, Edges::rich, y -> y.drop(3, 5));
        edges.refused(-3, Edges.NOTHING, y -> y.drop(0, 0));
        // It fell off the STACK and is in the SAMPLE.
        edges.refused(-3, y -> y.loop(0, 0, 24), y -> y.drop(0, 0));
    }

    private static void pass() {
        sentence("A TIME: COSTS of all TENANTS together as they are then. -3.");
        MissCurves x = new MissCurves();
        due(0, x.pass());
        for (int t = 0; t < 4; t++) {
            x.loop(t, 0, 2);
            x.read(t, 0);
            x.read(t, 0);
            x.read(t, 0);
        }
        // Of each TENANT 3 COLD, 2 at place 1, 1 at place 3: 1, 1, 0.
        due(8, x.pass());
        due(2, x.count(11));
        x.terms(0, 998);
        due(0, x.pass());
        due(0, x.status());
        due(-3, x.pass());
        edges.refused(-3, y -> {
            Edges.rich(y);
            y.terms(0, 998);
            y.pass();
        }, MissCurves::pass);
    }

    private static void undo() {
        sentence("The latest read(), loop(), drop(), pass() (by ORDERS, too; 16 are kept) is undone (all of all TENANTS, TIME are as they were): 0 .. 3.");
        MissCurves x = new MissCurves();
        x.read(0, 1);
        x.loop(0, 1, 3);
        x.drop(0, 2);
        x.pass();
        due(4, x.count(3));
        due(3, x.undo());
        due(0, x.count(11));
        due(2, x.undo());
        due(1, x.undo());
        due(0, x.undo());
        due(0, x.count(3));
        due(-3, x.undo());
        // 15, 16, 17 of them.
        for (int n = 15; n <= 17; n++) {
            MissCurves y = new MissCurves();
            for (int i = 0; i < n; i++) {
                y.read(0, i);
            }
            due(Math.min(n, 16), y.count(3));
            for (int i = Math.min(n, 16); i > 0; i--) {
                due(0, y.undo());
            }
            due(-3, y.undo());
            due(n == 17 ? 1 : 0, y.of(0, 3));
        }
        // The ring goes over its end many times.
        MissCurves z = new MissCurves();
        for (int i = 0; i < 100; i++) {
            z.read(0, i);
            if (i % 3 == 2) {
                due(0, z.undo());
            }
        }
        due(16, z.count(3));
        due(99, z.top(0, 1));
        due(0, z.undo());
        due(97, z.top(0, 1));
        due(0, z.undo());
        due(96, z.top(0, 1));
        // ORDERS of more than 16, and of some behind those that were there.
        MissCurves w = new MissCurves();
        w.loop(1, 0, 5);
        due(20, Edges.orders(w, "read 9 by 1 times 20"));
        due(16, w.count(3));
        for (int i = 0; i < 16; i++) {
            due(0, w.undo());
        }
        due(10, w.of(1, 3));
        due(-3, w.undo());
        // ORDERS behind ORDERS: each keeps its own.
        MissCurves u = new MissCurves();
        for (int i = 0; i < 4; i++) {
            due(3, Edges.orders(u, "read done+" + 10 * i + " by 2 times 3"));
        }
        due(-3, Edges.orders(u, "read 1 by 2 times 20;read 1 by 9"));
        for (int i = 11; i >= 0; i--) {
            due(i / 3 * 10 + i % 3, u.top(2, 1));
            due(i + 1, u.of(2, 3));
            due(0, u.undo());
        }
        due(0, u.of(2, 0));
        MissCurves v = new MissCurves();
        v.loop(1, 0, 5);
        Edges.orders(v, "pass times 2;drop 5 by 1");
        due(4, v.count(3));
        due(2, v.undo());
        due(3, v.undo());
        due(3, v.undo());
        due(1, v.undo());
        due(0, v.of(1, 0));
    }

    private static void undoAll() {
        sentence("(all of all TENANTS, TIME are as they were)");
        Edges.Call[] done = {x -> x.read(0, 77), x -> x.read(0, 13), x -> x.loop(2, 0, 31), x -> x.drop(0, 5), MissCurves::pass};
        for (Edges.Call one : done) {
            Map<String, Long> want = Edges.look(Edges::rich);
            Map<String, Long> got = Edges.look(x -> {
                Edges.rich(x);
                one.on(x);
                x.undo();
            });
            for (Map.Entry<String, Long> e : want.entrySet()) {
                if (!e.getKey().equals("status()")) {
                    due(e.getValue(), got.get(e.getKey()));
                }
            }
        }
        sentence("-3 there is none (nothing that was ahead of a terms(), row(), back() that was not REFUSED can be undone)");
        edges.refused(-3, Edges.NOTHING, MissCurves::undo);
        Edges.Call[] ending = {x -> x.terms(0, 3), x -> x.terms(1, 3), x -> x.terms(2, 3), x -> x.terms(3, 3), MissCurves::row, x -> x.back(0)};
        for (Edges.Call one : ending) {
            MissCurves x = new MissCurves();
            Edges.rich(x);
            due(5, x.count(3));
            one.on(x);
            due(0, x.status());
            due(0, x.count(3));
            due(-3, x.undo());
            x.read(0, 1);
            due(0, x.undo());
            due(-3, x.undo());
            edges.refused(-3, y -> {
                Edges.rich(y);
                one.on(y);
            }, MissCurves::undo);
        }
        Edges.Call[] leaving = {x -> x.terms(0, 1000), x -> x.terms(4, 0), x -> x.end(0) + x.row(), x -> x.back(1), x -> x.back(2), x -> x.image(0), x -> x.image(1),
            x -> x.months(1, 9), x -> x.seen(0, 0), x -> x.forget(), x -> x.report(0), x -> x.force(1), x -> Edges.orders(x, "pass;read 1 by 9"),
            x -> Edges.law(x, "x"), x -> Edges.policy(x, "x"), x -> Edges.orders(x, "x"), x -> Edges.orders(x, "pass if 1=2"), x -> x.read(0, -1)};
        for (Edges.Call one : leaving) {
            MissCurves x = new MissCurves();
            Edges.rich(x);
            one.on(x);
            due(5, x.count(3));
            due(0, x.undo());
            due(3, x.undo());
            due(2, x.undo());
            due(0, x.undo());
            due(1, x.undo());
            due(-3, x.undo());
        }
    }

    // Curves.

    private static void misses() {
        sentence("MISSES. NONE.");
        MissCurves x = new MissCurves();
        x.loop(3, 0, 23);
        x.read(3, 0);
        due(25, x.misses(3, 0));
        due(25, x.misses(3, 23));
        due(24, x.misses(3, 24));
        due(0, x.misses(2, 0));
        sizesAndTenants((y, t, c) -> y.misses(t, c));
        sentence("The HULL. NONE.");
        due(25000, x.hull(3, 0));
        due(24500, x.hull(3, 12));
        due(24958, x.hull(3, 1));
        due(24000, x.hull(3, 24));
        sizesAndTenants((y, t, c) -> y.hull(t, c));
        sentence("GUESS. NONE.");
        due(0, x.guess(2, 0));
        due(0, x.guess(2, 24));
        sizesAndTenants((y, t, c) -> y.guess(t, c));
        sentence("REPLAYED with c 0 .. 24 places: how many misses. NONE.");
        due(25, x.replay(3, 0));
        due(25, x.replay(3, 23));
        due(24, x.replay(3, 24));
        due(0, x.replay(2, 0));
        sizesAndTenants((y, t, c) -> y.replay(t, c));
        sentence("Behind the latest MONTHS of a TENANT MISSES at size c. NONE (ahead of any, too).");
        sizesAndTenants((y, t, c) -> y.drawn(t, c));
        due(-1, x.drawn(0, 0));
        due(-1, x.months(-1, 1));
        due(-1, x.drawn(0, 0));
        x.months(0, 1);
        due(1, x.drawn(1, 24));
        due(25, x.drawn(3, 0));
        due(24, x.drawn(3, 24));
        due(-1, x.drawn(3, 25));
        due(-1, x.months(0, 61));
        x.read(3, 500);
        due(25, x.drawn(3, 0));
        x.months(0, 1);
        due(26, x.drawn(3, 0));
    }

    private interface OfSize {
        long on(MissCurves x, int tenant, int c);
    }

    private static void sizesAndTenants(OfSize call) {
        for (int t : Edges.NO_TENANTS) {
            edges.none(x -> call.on(x, t, 0));
            edges.none(x -> call.on(x, t, 24));
        }
        for (int c : Edges.NO_SIZES) {
            edges.none(x -> call.on(x, 0, c));
            edges.none(x -> call.on(x, 3, c));
        }
    }

    private static void bend() {
        sentence("BENDS: how many (i NONE), the i-th size. NONE.");
        MissCurves x = Edges.reads(3, 1, 1);
        due(3, x.bend(3, -1));
        due(0, x.bend(3, 0));
        due(1, x.bend(3, 1));
        due(24, x.bend(3, 2));
        due(-1, x.bend(3, 3));
        due(2, x.bend(0, -1));
        due(-1, x.bend(0, 2));
        for (int i : new int[] {-2, 25, LEAST, MOST}) {
            edges.none(y -> y.bend(0, i));
        }
        for (int t : Edges.NO_TENANTS) {
            edges.none(y -> y.bend(t, 0));
            edges.none(y -> y.bend(t, -1));
        }
    }

    private static void report() {
        sentence("A REPORT: how many signs it has. NONE.");
        MissCurves x = Edges.reads(3, 1, 1);
        due(9, x.report(0));
        due(13, x.report(3));
        for (int t : Edges.NO_TENANTS) {
            edges.none(y -> y.report(t));
        }
        sentence("The i-th sign of the latest REPORT that could be, as a byte. NONE.");
        due(-1, new MissCurves().sign(0));
        due('0', x.sign(0));
        due('2', x.sign(2));
        due('.', x.sign(12));
        due(-1, x.sign(13));
        due(-1, x.sign(-1));
        due(-1, x.report(4));
        due('2', x.sign(2));
        // It is of then: what comes later changes nothing; a shorter one has nothing of a longer one.
        x.read(3, 1);
        due('2', x.sign(2));
        due(9, x.report(0));
        due('.', x.sign(8));
        due(-1, x.sign(9));
        for (int i : new int[] {-1, 400, LEAST, MOST}) {
            edges.none(y -> y.sign(i));
        }
    }

    private static void salted() {
        sentence("SALTED. NONE.");
        MissCurves x = Edges.reads(3, 1, 1);
        due(2, x.salted(3, 1));
        due(2000, x.salted(3, 1000));
        due(0, x.salted(0, 1000));
        for (int limit : new int[] {0, 1001, -1, LEAST, MOST}) {
            edges.none(y -> y.salted(0, limit));
        }
        for (int t : Edges.NO_TENANTS) {
            edges.none(y -> y.salted(t, 5));
        }
    }

    private static void deals() {
        sentence("SHARES: what a TENANT gets. NONE (a size that is not 0 .. 48, too).");
        MissCurves x = Edges.reads(3, 1, 1);
        due(0, x.share(0, 0));
        due(0, x.share(0, 3));
        due(1, x.share(48, 3));
        due(24, x.share(48, 0));
        for (int size : new int[] {-1, 49, LEAST, MOST}) {
            edges.none(y -> y.share(size, 0));
            edges.none(y -> y.best(size, 0));
            edges.none(y -> y.best(size, -1));
        }
        for (int t : Edges.NO_TENANTS) {
            edges.none(y -> y.share(0, t));
            edges.none(y -> y.share(48, t));
        }
        sentence("BEST: what a TENANT gets; MISSES together (tenant NONE). NONE (a size that is not 0 .. 48, too).");
        due(2, x.best(0, -1));
        due(0, x.best(0, 3));
        due(1, x.best(1, 3));
        due(1, x.best(48, -1));
        due(1, x.best(48, 3));
        due(0, x.best(48, 0));
        for (int t : new int[] {-2, 4, LEAST, MOST}) {
            edges.none(y -> y.best(0, t));
            edges.none(y -> y.best(48, t));
        }
    }

    private static void oddAndSpilt() {
        sentence("ODD. NONE (there is none; no such TENANT).");
        MissCurves x = Edges.reads(3, 1, 2, 3, 4, 1, 2, 5, 1, 2, 3, 4, 5);
        due(-1, x.odd(3));
        due(-1, x.odd(0));
        sentence("SPILT. NONE (never; no such TENANT).");
        due(-1, x.spilt(3));
        due(-1, x.spilt(0));
        Edges.policy(x, "fifo");
        due(3, x.odd(3));
        due(6, x.spilt(3));
        for (int t : Edges.NO_TENANTS) {
            edges.none(y -> y.odd(t));
            edges.none(y -> y.spilt(t));
        }
    }

    // Which TENANT it is.

    private static void seen() {
        sentence("SEEN: how often there was. -1 (c 0 .. 24, n 0 .. 99,999); -5.");
        MissCurves x = new MissCurves();
        int[][] good = {{0, 0}, {24, 99999}, {0, 99999}, {24, 0}, {1, 1}, {23, 99998}};
        for (int i = 0; i < 6; i++) {
            due(i + 1, x.seen(good[i][0], good[i][1]));
            due(0, x.status());
        }
        for (int[] bad : new int[][] {{-1, 0}, {25, 0}, {0, -1}, {0, 100000}, {LEAST, 0}, {MOST, 0}, {0, LEAST}, {24, MOST}}) {
            edges.refused(-1, Edges::rich, y -> y.seen(bad[0], bad[1]));
        }
        edges.refused(-5, y -> {
            Edges.rich(y);
            for (int i = 1; i < 6; i++) {
                y.seen(24, 7);
            }
        }, y -> y.seen(0, 0));
        sentence("It leaves what can be undone.");
        MissCurves y = new MissCurves();
        Edges.rich(y);
        y.seen(0, 0);
        due(5, y.count(3));
        due(0, y.undo());
        due(2, y.count(1));
        sentence("SEEN is nothing then: how often there was.");
        due(6, x.forget());
        due(0, x.count(1));
        due(15, x.canBe());
        due(0, x.forget());
        due(1, x.seen(0, 0));
        due(1, x.forget());
    }

    private static void ask() {
        sentence("IT CAN BE, as bits.");
        MissCurves x = Edges.reads(3, 1);
        due(15, x.canBe());
        x.seen(0, 1);
        due(8, x.canBe());
        x.seen(0, 0);
        due(0, x.canBe());
        sentence("To ASK of: the size (what 0), how many TENANTS are left at most (1). NONE (it can be none).");
        due(-1, x.ask(0));
        due(-1, x.ask(1));
        x.forget();
        due(0, x.ask(0));
        due(3, x.ask(1));
        x.seen(0, 0);
        due(7, x.canBe());
        due(0, x.ask(0));
        due(3, x.ask(1));
        x.forget();
        x.seen(0, 1);
        due(0, x.ask(0));
        due(1, x.ask(1));
        for (int what : new int[] {-1, 2, LEAST, MOST}) {
            edges.none(y -> y.ask(what));
            due(-1, new MissCurves().ask(what));
        }
        due(4, new MissCurves().ask(1));
    }

    private static void few() {
        sentence("FEW, k 1 .. 20, n 0 .. 99. NONE.");
        MissCurves x = new MissCurves();
        x.terms(1, 10);
        due(1000000000000L, x.few(1, 0));
        due(1000000000000L, x.few(20, 0));
        due(0, x.few(1, 99));
        due(0, x.few(20, 99));
        x.terms(1, 0);
        due(1000000000000L, x.few(20, 99));
        for (int k : new int[] {0, 21, -1, LEAST, MOST}) {
            edges.none(y -> y.few(k, 1));
        }
        for (int n : new int[] {-1, 100, LEAST, MOST}) {
            edges.none(y -> y.few(1, n));
        }
    }

    private static void compare() {
        sentence("COMPARED. NONE (no such LAW, TENANT, KEY).");
        MissCurves x = new MissCurves();
        due(1, x.compare(-1, 0, 0));
        due(1, x.compare(-1, 3, 999));
        due(-1, x.compare(0, 0, 0));
        Edges.law(x, "costs 5");
        due(5, x.compare(0, 0, 0));
        due(5, x.compare(0, 3, 999));
        for (int law : new int[] {-2, 2, 6, LEAST, MOST}) {
            edges.none(y -> y.compare(law, 0, 0));
        }
        for (int t : Edges.NO_TENANTS) {
            edges.none(y -> y.compare(0, t, 0));
            edges.none(y -> y.compare(-1, t, 0));
        }
        for (int k : Edges.NO_KEYS) {
            edges.none(y -> y.compare(0, 0, k));
            edges.none(y -> y.compare(-1, 0, k));
        }
    }

    // MONTHS and IMAGES.

    private static void months() {
        sentence("MONTHS, kept as the latest: how many READS were COLD (or BARRED) in them. -1.");
        for (int[] bad : new int[][] {{-1, 1}, {1000001, 1}, {0, 0}, {0, 61}, {LEAST, 1}, {MOST, 1}, {0, LEAST}, {0, MOST}}) {
            edges.refused(-1, Edges::rich, x -> x.months(bad[0], bad[1]));
            edges.refused(-1, Edges.NOTHING, x -> x.months(bad[0], bad[1]));
        }
        MissCurves x = Edges.reads(1, 1);
        due(0, x.months(0, 1));
        due(1, x.drawn(1, 1));
        due(2, x.drawn(1, 0));
        Edges.law(x, "bars");
        x.force(0);
        due(1, x.months(0, 1));
        due(2, x.drawn(1, 24));
        // On paper: nothing but what drawn() tells has changed.
        Map<String, Long> want = Edges.look(Edges::rich);
        Map<String, Long> got = Edges.look(y -> {
            Edges.rich(y);
            y.months(1000000, 60);
        });
        for (Map.Entry<String, Long> e : want.entrySet()) {
            if (!e.getKey().startsWith("drawn") && !e.getKey().equals("status()")) {
                due(e.getValue(), got.get(e.getKey()));
            }
        }
        due(0, got.get("status()"));
    }

    private static void image() {
        sentence("IMAGE k is kept: 0; -1.");
        for (int k = 0; k < 2; k++) {
            MissCurves x = new MissCurves();
            due(0, x.image(k));
            due(0, x.image(k));
            due(0, x.status());
            due(0, x.back(k));
            due(-2, x.back(1 - k));
        }
        for (int k : new int[] {-1, 2, LEAST, MOST}) {
            edges.refused(-1, Edges::rich, x -> x.image(k));
            edges.refused(-1, Edges::rich, x -> x.back(k));
        }
        sentence("BACK to IMAGE k: 0. -1; -2 it was not kept.");
        edges.refused(-2, Edges::rich, x -> x.back(1));
        edges.refused(-2, Edges.NOTHING, x -> x.back(0));
        edges.refused(-2, Edges.NOTHING, x -> x.back(1));
        MissCurves x = new MissCurves();
        Edges.rich(x);
        due(0, x.back(0));
        due(0, x.status());
        due(0, x.back(0));
        // A refused image() leaves what was kept; a later one takes its place.
        MissCurves y = Edges.reads(0, 1);
        y.image(0);
        y.read(0, 2);
        y.image(2);
        y.back(0);
        due(1, y.of(0, 0));
        y.read(0, 3);
        y.read(0, 4);
        y.image(0);
        y.image(1);
        y.read(0, 5);
        y.back(0);
        due(3, y.of(0, 0));
        y.read(0, 5);
        y.back(1);
        due(3, y.of(0, 0));
    }

    private static void count() {
        sentence("0 POLICY, 1 SEEN, 2 LAWS, 3 how many can be undone, 4 bytes of the TAPE, 5 .. 9 how many calls were REFUSED by -1, -2, -3, -5, -6 (IMAGES do not keep that), 10 the LAW in FORCE, 11 .. 14 TERMS 0 .. 3.");
        MissCurves x = new MissCurves();
        Edges.rich(x);
        int[] want = {3, 1, 2, 5, 5, 0, 0, 1, 0, 1, 0, 6, 3, 4, 77};
        for (int what = 0; what < want.length; what++) {
            due(want[what], x.count(what));
        }
        x.back(0);
        due(0, x.count(5));
        due(1, x.count(7));
        due(1, x.count(9));
        x.read(9, 9);
        x.force(9);
        x.undo();
        x.end(0);
        x.row();
        for (int i = 0; i < 7; i++) {
            x.seen(0, 0);
        }
        int[] then = {1, 1, 2, 1, 2};
        for (int i = 0; i < 5; i++) {
            due(then[i], x.count(5 + i));
        }
        x.back(0);
        for (int i = 0; i < 5; i++) {
            due(then[i], x.count(5 + i));
        }
        sentence("NONE for others.");
        for (int what : new int[] {-1, 15, LEAST, MOST}) {
            edges.none(y -> y.count(what));
        }
    }

    private static void status() {
        sentence("What the latest call of terms, row, policy, law, orders, force, read, loop, drop, pass, undo, seen, months, image, back was REFUSED by; 0 if it was not, or ahead of any.");
        due(0, new MissCurves().status());
        Edges.Call[] refused = {x -> x.terms(4, 0), x -> x.end(0) + x.row(), x -> Edges.policy(x, "x"), x -> Edges.law(x, "x"), x -> Edges.orders(x, "x"),
            x -> Edges.orders(x, "read 1 by 4"), x -> x.force(5), x -> x.read(4, 0), x -> x.loop(0, 1, 0), x -> x.drop(0, 999), x -> x.drop(0, 1000),
            x -> x.seen(25, 0), x -> x.months(0, 0), x -> x.image(2), x -> x.back(1), x -> x.back(2)};
        int[] codes = {-1, -6, -6, -6, -6, -3, -2, -1, -1, -3, -1, -1, -1, -1, -2, -1};
        Edges.Call[] done = {x -> x.terms(0, 0), MissCurves::row, x -> Edges.policy(x, "lru"), x -> Edges.law(x, "bars"), x -> Edges.orders(x, "pass"),
            x -> x.force(-1), x -> x.read(0, 0), x -> x.loop(0, 0, 0), x -> x.drop(0, 5), MissCurves::pass, MissCurves::undo, x -> x.seen(0, 0),
            x -> x.months(0, 1), x -> x.image(1), x -> x.back(0)};
        for (int i = 0; i < refused.length; i++) {
            MissCurves x = new MissCurves();
            Edges.rich(x);
            due(codes[i], refused[i].on(x));
            due(codes[i], x.status());
            others(x);
            due(codes[i], x.status());
            x.terms(0, 0);
            due(0, x.status());
            refused[i].on(x);
            due(codes[i], x.status());
        }
        for (Edges.Call one : done) {
            MissCurves x = new MissCurves();
            Edges.rich(x);
            x.read(4, 0);
            due(-1, x.status());
            one.on(x);
            due(0, x.status());
            others(x);
            due(0, x.status());
        }
    }

    /** All calls that status() does not name, with numbers that can and can't be. */
    private static void others(MissCurves x) {
        for (int i : new int[] {-2, 0, 99}) {
            x.of(i, i);
            x.top(i, i);
            x.key(i, i, i);
            x.end(i == 0 ? x.count(4) : i);
            x.blanks();
            x.fault();
            x.stopped();
            x.misses(i, i);
            x.hull(i, i);
            x.bend(i, i);
            x.report(i);
            x.sign(i);
            x.guess(i, i);
            x.salted(i, i);
            x.share(i, i);
            x.best(i, i);
            x.replay(i, i);
            x.odd(i);
            x.spilt(i);
            x.canBe();
            x.ask(i);
            x.few(i, i);
            x.compare(i, i, i);
            x.drawn(i, i);
            x.count(i);
        }
        x.feed(0, 0, 0, 0, 0);
        x.forget();
    }

    public static void main(String[] args) {
        calls();
        newObject();
        of();
        top();
        key();
        terms();
        feed();
        end();
        row();
        policy();
        law();
        orders();
        fault();
        force();
        read();
        loop();
        drop();
        pass();
        undo();
        undoAll();
        misses();
        bend();
        report();
        salted();
        deals();
        oddAndSpilt();
        seen();
        ask();
        few();
        compare();
        months();
        image();
        count();
        status();
        System.exit(edges.end("Promises 1 to 44"));
    }
}
