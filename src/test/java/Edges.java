import java.io.IOException;
import java.nio.file.Files;
import java.nio.file.Path;
import java.util.LinkedHashMap;
import java.util.Map;

/**
 * What the tests of boundary cases have in common. Each case names the sentence of the document that it tests, word by word;
 * a refused call is looked at from all sides: its answer, status, fault and count, and that nothing else has changed.
 */
final class Edges {
    /** What is done on an object ahead of the call that is tested. */
    interface Setup {
        void on(MissCurves x);
    }

    interface Call {
        long on(MissCurves x);
    }

    private static final int[] LOOKED_AT = {0, 3, 5, 7, 12, 13, 15, 27, 499, 500, 900, 999};
    static final int[] NO_TENANTS = {-1, 4, Integer.MIN_VALUE, Integer.MAX_VALUE};
    static final int[] NO_KEYS = {-1, 1000, Integer.MIN_VALUE, Integer.MAX_VALUE};
    static final int[] NO_SIZES = {-1, 25, Integer.MIN_VALUE, Integer.MAX_VALUE};
    static final Setup NOTHING = x -> { };

    private final String document = documentText();
    private String sentence = "";
    private int sentences = 0;
    private int asked = 0;
    private int wrong = 0;

    /** Null where the document is not beside the project: then quotes are not looked up. */
    private static String documentText() {
        Path path = Path.of("../shared/DOC.md");
        try {
            return Files.exists(path) ? plain(Files.readString(path)) : null;
        } catch (IOException e) {
            return null;
        }
    }

    private static String plain(String text) {
        return text.replace("`", "").replaceAll("\\s+", " ").trim();
    }

    /** The sentence that is tested from here on. */
    void sentence(String quote) {
        sentence = quote;
        sentences++;
        if (document != null && !document.contains(plain(quote))) {
            wrong++;
            System.out.println("not in the document: " + quote);
        }
    }

    void due(long want, long got) {
        asked++;
        if (got != want) {
            wrong++;
            System.out.println(place() + ": answered " + got + ", due is " + want);
        }
    }

    private String place() {
        for (StackTraceElement e : new Throwable().getStackTrace()) {
            if (!e.getClassName().startsWith("Edges") && !e.getMethodName().equals("due")) {
                return "'" + sentence + "', line " + e.getLineNumber();
            }
        }
        return sentence;
    }

    private void dueAll(Map<String, Long> want, Map<String, Long> got) {
        for (Map.Entry<String, Long> e : want.entrySet()) {
            asked++;
            if (!e.getValue().equals(got.get(e.getKey()))) {
                wrong++;
                System.out.println(place() + ": behind it " + e.getKey() + " answered " + got.get(e.getKey()) + ", due is " + e.getValue());
            }
        }
        due(want.size(), got.size());
    }

    int end(String name) {
        System.out.println(name + ": " + sentences + " sentences, " + asked + " answers, " + wrong + " not as due");
        return wrong == 0 ? 0 : 1;
    }

    // Texts.

    static MissCurves tell(MissCurves x, String text) {
        x.end(0);
        for (int i = 0; i < text.length(); i += 20) {
            int[] n = new int[5];
            for (int k = 0; k < 20; k++) {
                n[k / 4] = n[k / 4] << 8 | (i + k < text.length() ? text.charAt(i + k) & 255 : 0);
            }
            x.feed(n[0], n[1], n[2], n[3], n[4]);
        }
        x.end(text.length());
        return x;
    }

    static int law(MissCurves x, String text) {
        return tell(x, text).law();
    }

    static int orders(MissCurves x, String text) {
        return tell(x, text).orders();
    }

    static int policy(MissCurves x, String text) {
        return tell(x, text).policy();
    }

    static MissCurves reads(int tenant, int... keys) {
        MissCurves x = new MissCurves();
        for (int k : keys) {
            x.read(tenant, k);
        }
        return x;
    }

    /** An object of which a LAW is in FORCE. */
    static MissCurves under(String law) {
        MissCurves x = new MissCurves();
        x.force(law(x, law));
        return x;
    }

    /** The KEY that has this HASH with SALT 0. */
    static int keyOf(int hash) {
        for (int k = 0; k < 1000; k++) {
            if (k * 617 % 1000 == hash) {
                return k;
            }
        }
        return -1;
    }

    // Calls that are not answered.

    /** An object on which all that can stand stands: what is changed by mistake is seen. */
    static void rich(MissCurves x) {
        law(x, "costs 3 if key<500; costs 7 if key>499; bars if key=13");
        law(x, "costs reads+far");
        x.force(0);
        policy(x, "lfu");
        x.loop(0, 0, 27);
        x.loop(1, 10, 20);
        x.read(2, 999);
        x.image(0);
        x.terms(1, 3);
        x.terms(2, 4);
        x.terms(3, 77);
        x.terms(0, 5);
        tell(x, "\u0002\u0007\u0004\u0007\u0003");
        x.row();
        x.loop(0, 3, 9);
        x.read(3, 900);
        x.drop(1, 12);
        x.pass();
        x.read(0, 5);
        // So is TENANT 0 at the end: IT CAN BE shows whether SEEN is another.
        x.seen(24, 42);
        x.months(7, 40);
        x.report(0);
        orders(x, "pass; read 1000 by 0");
        policy(x, "lru mru");
        tell(x, "\u0000\u0005\u0001\u0007\u0009");
    }

    /** The call is REFUSED; behind it status and one count are others, nothing else is. */
    void refused(int code, Setup setup, Call call) {
        MissCurves x = new MissCurves();
        setup.on(x);
        due(code, call.on(x));
        Map<String, Long> want = look(setup);
        want.put("status()", (long) code);
        want.merge(countOf(code), 1L, Long::sum);
        dueAll(want, look(y -> {
            setup.on(y);
            call.on(y);
        }));
    }

    /** As refused(), of calls that take the TAPE, too: it is empty then; FAULT and where ORDERS stopped are as told. */
    void refusedText(int code, long fault, long stopped, Setup setup, Call call) {
        MissCurves x = new MissCurves();
        setup.on(x);
        due(code, call.on(x));
        Map<String, Long> want = look(y -> {
            setup.on(y);
            y.end(0);
        });
        want.put("status()", (long) code);
        want.put("fault()", fault);
        want.put("stopped()", stopped);
        want.merge(countOf(code), 1L, Long::sum);
        dueAll(want, look(y -> {
            setup.on(y);
            call.on(y);
        }));
    }

    void refusedPolicy(long fault, String text) {
        refusedText(-6, fault, 1, x -> {
            rich(x);
            tell(x, text);
        }, MissCurves::policy);
    }

    void refusedLaw(long fault, String text) {
        refusedText(-6, fault, 1, x -> {
            rich(x);
            tell(x, text);
        }, MissCurves::law);
    }

    void refusedOrders(long fault, String text) {
        refusedText(-6, fault, -1, x -> {
            rich(x);
            tell(x, text);
        }, MissCurves::orders);
    }

    /** ORDERS of which a CLAUSE can't be. */
    void stoppedOrders(long clause, String text) {
        refusedText(-3, -1, clause, x -> {
            rich(x);
            tell(x, text);
        }, MissCurves::orders);
    }

    /** The call answers NONE and nothing at all is another one behind it. */
    void none(Call call) {
        MissCurves x = new MissCurves();
        rich(x);
        due(-1, call.on(x));
        dueAll(look(Edges::rich), look(y -> {
            rich(y);
            call.on(y);
        }));
    }

    private static String countOf(int code) {
        return "count(" + (code == -1 ? 5 : code == -2 ? 6 : code == -3 ? 7 : code == -5 ? 8 : 9) + ")";
    }

    // All that can be seen of an object, by calls; a new one for each part, since one is used for at most 512 calls.

    static Map<String, Long> look(Setup setup) {
        Map<String, Long> seen = new LinkedHashMap<>();
        for (int t = 0; t < 4; t++) {
            lookAtTenant(made(setup), t, seen);
        }
        lookAtRest(made(setup), seen);
        lookAtCurves(made(setup), seen);
        lookAtUndone(made(setup), seen);
        for (int k = 0; k < 2; k++) {
            MissCurves x = made(setup);
            seen.put("back(" + k + ")", (long) x.back(k));
            lookAtSome(x, "back(" + k + "), ", seen);
        }
        MissCurves x = made(setup);
        seen.put("row()", (long) x.row());
        seen.put("row(), blanks()", (long) x.blanks());
        lookAtSome(x, "row(), ", seen);
        return seen;
    }

    private static MissCurves made(Setup setup) {
        MissCurves x = new MissCurves();
        setup.on(x);
        return x;
    }

    private static void lookAtTenant(MissCurves x, int t, Map<String, Long> seen) {
        for (int what = 0; what <= 28; what++) {
            seen.put("of(" + t + ", " + what + ")", (long) x.of(t, what));
        }
        for (int place = 1; place <= 24; place++) {
            seen.put("top(" + t + ", " + place + ")", (long) x.top(t, place));
        }
        for (int c = 0; c <= 24; c++) {
            seen.put("guess(" + t + ", " + c + ")", (long) x.guess(t, c));
        }
        for (int k : LOOKED_AT) {
            for (int what = 0; what <= 4; what++) {
                seen.put("key(" + t + ", " + k + ", " + what + ")", (long) x.key(t, k, what));
            }
        }
        for (int k = 0; k < 32; k++) {
            seen.put("key(" + t + ", " + k + ", 1)", (long) x.key(t, k, 1));
        }
    }

    private static void lookAtRest(MissCurves x, Map<String, Long> seen) {
        seen.put("status()", (long) x.status());
        seen.put("fault()", (long) x.fault());
        seen.put("stopped()", (long) x.stopped());
        seen.put("blanks()", (long) x.blanks());
        for (int what = 0; what <= 14; what++) {
            seen.put("count(" + what + ")", (long) x.count(what));
        }
        for (int i = 0; i < 60; i++) {
            seen.put("sign(" + i + ")", (long) x.sign(i));
        }
        for (int law = -1; law <= 5; law++) {
            for (int k : LOOKED_AT) {
                seen.put("compare(" + law + ", 0, " + k + ")", (long) x.compare(law, 0, k));
            }
        }
        seen.put("canBe()", (long) x.canBe());
        seen.put("ask(0)", (long) x.ask(0));
        seen.put("few(2, 9)", x.few(2, 9));
    }

    private static void lookAtCurves(MissCurves x, Map<String, Long> seen) {
        for (int t = 0; t < 4; t++) {
            for (int c = 0; c <= 24; c++) {
                seen.put("misses(" + t + ", " + c + ")", (long) x.misses(t, c));
                seen.put("drawn(" + t + ", " + c + ")", (long) x.drawn(t, c));
                seen.put("replay(" + t + ", " + c + ")", (long) x.replay(t, c));
            }
        }
    }

    private static void lookAtUndone(MissCurves x, Map<String, Long> seen) {
        for (int n = 1; n <= 17; n++) {
            String name = "undo() no. " + n;
            seen.put(name, (long) x.undo());
            for (int t = 0; t < 4; t++) {
                seen.put(name + ", top(" + t + ", 1)", (long) x.top(t, 1));
                seen.put(name + ", misses(" + t + ", 0)", (long) x.misses(t, 0));
                seen.put(name + ", of(" + t + ", 3)", (long) x.of(t, 3));
                seen.put(name + ", guess(" + t + ", 0)", (long) x.guess(t, 0));
            }
            seen.put(name + ", count(11)", (long) x.count(11));
        }
    }

    private static void lookAtSome(MissCurves x, String ahead, Map<String, Long> seen) {
        for (int t = 0; t < 4; t++) {
            for (int what = 0; what <= 28; what++) {
                seen.put(ahead + "of(" + t + ", " + what + ")", (long) x.of(t, what));
            }
            for (int place = 1; place <= 24; place++) {
                seen.put(ahead + "top(" + t + ", " + place + ")", (long) x.top(t, place));
            }
            seen.put(ahead + "guess(" + t + ", 0)", (long) x.guess(t, 0));
            seen.put(ahead + "guess(" + t + ", 24)", (long) x.guess(t, 24));
            seen.put(ahead + "replay(" + t + ", 3)", (long) x.replay(t, 3));
        }
        for (int what = 0; what <= 14; what++) {
            if (what < 4 || what > 9) {
                seen.put(ahead + "count(" + what + ")", (long) x.count(what));
            }
        }
        for (int law = -1; law <= 5; law++) {
            seen.put(ahead + "compare(" + law + ", 0, 5)", (long) x.compare(law, 0, 5));
        }
        seen.put(ahead + "canBe()", (long) x.canBe());
    }
}
