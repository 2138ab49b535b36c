import java.lang.reflect.InvocationTargetException;
import java.lang.reflect.Method;
import java.util.ArrayList;
import java.util.HashMap;
import java.util.List;
import java.util.Map;
import java.util.Random;

/** Runs of drawn calls (the draws are the same each time), each answered by MissCurves and by Naive alike. */
public final class RandomRunsTest {
    private static final int[] EDGES = {Integer.MIN_VALUE, -2, -1, 0, 1, 3, 4, 5, 24, 25, 32, 48, 49, 999, 1000, 1001, Integer.MAX_VALUE};
    private static final String[] CALLS = {
        "of t -1:29", "top t 0:25", "key t k -1:5", "terms -1:4 -1:11", "terms 0:0 990:999", "terms 3:3 0:999", "terms 2:2 0:9", "row", "law",
        "orders", "orders", "orders", "read t s", "read t s", "read 0:0 s", "read 0:0 s", "read 0:0 s", "read 0:0 s", "drop t s",
        "blanks", "policy", "law", "orders", "fault", "stopped", "force -2:6", "force -1:5", "read t k", "read t k", "read t k", "read t k",
        "read t s", "read t s", "read t s", "read t s", "read t s", "loop t s s", "loop t k k", "drop t s", "drop t k", "pass", "undo",
        "undo", "misses t c", "hull t c", "hull t c", "bend t -1:10", "report t", "sign 0:40", "guess t c", "guess t c",
        "salted t 0:1001", "share 0:48 t", "share -1:49 t", "best 0:48 t", "best 0:20 -1:-1", "replay t c", "odd t", "spilt t", "seen c 0:9", "seen c -1:100000",
        "forget", "canBe", "ask -1:2", "few 0:21 -1:100", "compare -2:6 t k", "months -1:1000001 0:61", "months 0:1000000 1:60",
        "drawn t c", "image -1:2", "back -1:2", "count -1:15", "status", "feed x x x x x", "end -1:50"};

    private final Random draws;
    private final MissCurves mine = new MissCurves();
    private final Naive naive = new Naive();
    private final List<String> told = new ArrayList<>();
    private static final Map<String, Method> MINE = methodsOf(MissCurves.class);
    private static final Map<String, Method> NAIVE = methodsOf(Naive.class);
    private final int keys;
    private boolean failed = false;

    private RandomRunsTest(long seed) {
        draws = new Random(seed);
        keys = new int[] {4, 8, 12, 20, 40, 1000}[draws.nextInt(6)];
    }

    private static Map<String, Method> methodsOf(Class<?> type) {
        Map<String, Method> all = new HashMap<>();
        for (Method m : type.getDeclaredMethods()) {
            boolean numbers = true;
            for (Class<?> p : m.getParameterTypes()) {
                numbers &= p == int.class;
            }
            if (numbers && !m.isSynthetic()) {
                m.setAccessible(true);
                all.put(m.getName(), m);
            }
        }
        return all;
    }

    private static long answer(Method m, Object on, Object[] args) {
        try {
            return ((Number) m.invoke(on, args)).longValue();
        } catch (IllegalAccessException | InvocationTargetException e) {
            throw new IllegalStateException(m.getName(), e);
        }
    }

    private void call(String name, Object... args) {
        long got = answer(MINE.get(name), mine, args);
        long due = answer(NAIVE.get(name), naive, args);
        told.add(name + java.util.Arrays.toString(args) + " -> " + got);
        if (got != due && !failed) {
            failed = true;
            for (String t : told.subList(Math.max(0, told.size() - 40), told.size())) {
                System.out.println(t);
            }
            System.out.println("due is " + due);
        }
    }

    private int between(int from, int to) {
        return from + draws.nextInt(to - from + 1);
    }

    private int argument(String kind) {
        if (draws.nextInt(40) == 0) {
            return EDGES[draws.nextInt(EDGES.length)];
        }
        switch (kind) {
            case "t":
                return between(0, 3);
            case "k":
                return between(0, 999);
            case "s":
                return between(0, keys - 1);
            case "c":
                return between(0, 24);
            case "x":
                return draws.nextInt();
            default:
                String[] ends = kind.split(":");
                return between(Integer.parseInt(ends[0]), Integer.parseInt(ends[1]));
        }
    }

    private void tell(String text) {
        call("end", 0);
        for (int i = 0; i < text.length(); i += 20) {
            Object[] five = new Object[5];
            for (int j = 0; j < 5; j++) {
                int four = 0;
                for (int k = i + 4 * j; k < i + 4 * j + 4; k++) {
                    four = four << 8 | (k < text.length() ? text.charAt(k) & 255 : 0);
                }
                five[j] = four;
            }
            call("feed", five);
        }
        told.add("TEXT " + text);
        call("end", text.length());
    }

    // Texts.

    private String one(String... those) {
        return those[draws.nextInt(those.length)];
    }

    private String part(boolean orders, int depth) {
        int d = draws.nextInt(10);
        if (d < 2 && depth > 0) {
            return "[" + sum(orders, depth - 1) + "]";
        }
        if (d < 6) {
            return one("0", "1", "2", "3", "7", "20", "99", "100", "007", "1000") + (draws.nextInt(200) == 0 ? "1" : "");
        }
        return orders ? one("time", "done", "latest", "cold 0", "cold3", "deep 1", "deep2", "deep 0") + (draws.nextInt(150) == 0 ? " 4" : "")
            : one("tenant", "key", "reads", "far", "time", "mood");
    }

    private String sum(boolean orders, int depth) {
        StringBuilder s = new StringBuilder(part(orders, depth));
        while (draws.nextInt(3) == 0) {
            s.append(one("+", " - ", "*", "*", "/ ", "%", " %")).append(part(orders, depth));
        }
        return s.toString();
    }

    private String test(boolean orders, int depth) {
        StringBuilder s = new StringBuilder();
        do {
            s.append(s.length() > 0 ? one(" or ", " and ", " or  not ") : "");
            s.append(draws.nextInt(5) == 0 ? one("not ", "not not ", "not(not ") : "");
            boolean opened = s.toString().endsWith("(not ");
            if (depth > 0 && draws.nextInt(4) == 0) {
                s.append("(").append(test(orders, depth - 1)).append(")");
            } else {
                s.append(sum(orders, depth)).append(one("<", ">", "=", " < ", " > ")).append(sum(orders, depth));
            }
            s.append(opened ? ")" : "");
        } while (draws.nextInt(3) == 0);
        return s.toString();
    }

    private String key() {
        return draws.nextInt(3) > 0 ? "" + between(0, Math.min(keys - 1, 60)) : sum(true, 1);
    }

    private String tenant() {
        return draws.nextInt(4) > 0 ? "" + between(0, 3) : one("[", "") .isEmpty() ? "done%4" : "[time+done]%4";
    }

    private String clause(boolean orders) {
        String s;
        if (!orders) {
            s = draws.nextInt(4) > 0 ? "costs " + sum(false, 2) : "bars";
        } else {
            int from = between(0, Math.min(keys - 1, 60));
            s = one("read " + key() + " by " + tenant(), "read " + key() + " by " + tenant(), "loop " + from + " to " + (from + between(-1, 12)) + " by " + tenant(),
                "drop " + key() + " by " + tenant() + (draws.nextInt(4) > 0 ? " if latest>0" : ""), "pass");
            if (draws.nextInt(4) == 0 && !s.contains("if")) {
                s += " times " + between(0, 21);
            }
        }
        boolean asks = !s.contains("if") && (s.startsWith("bars") ? draws.nextInt(8) > 0 : draws.nextInt(2) == 0);
        return asks ? s + " if " + test(orders, 2) : s;
    }

    private String text(boolean orders) {
        int d = draws.nextInt(30);
        if (d == 0) {
            return "costs " + "[".repeat(between(7, 9)) + "key" + "]".repeat(between(7, 9));
        }
        if (d == 1) {
            return one("costs 1", "read 1 by 0") + "+1".repeat(between(47, 51)) + " if 1=1";
        }
        if (d == 2) {
            return (orders ? "pass;" : "bars if key=3;").repeat(between(10, 13)) + (orders ? one("pass", "") : "bars if key=4");
        }
        if (d == 3) {
            return one("bars if ", "pass if ") + "not ".repeat(between(1, 90)) + one("1=1", "1/0=1", "");
        }
        if (d == 4) {
            return one("bars if ", "pass if ") + "(".repeat(between(3, 9)) + "[".repeat(between(0, 3)) + "1";
        }
        StringBuilder s = new StringBuilder(clause(orders));
        while (draws.nextInt(3) > 0) {
            s.append(one(";", " ; ")).append(clause(orders));
        }
        if (draws.nextInt(6) == 0) {
            int at = draws.nextInt(s.length());
            s.replace(at, Math.min(s.length(), at + draws.nextInt(3)), one("", " ", ";", "5", "(", "]", "A", "or", "\u0000", "\u00e9", "if "));
        }
        return s.length() > 400 ? s.substring(0, 400) : s.toString();
    }

    private String rowText() {
        if (draws.nextInt(6) == 0) {
            // A run of which fifo misses more with four places than with three.
            char t = (char) between(0, 3);
            return "12341251234512341251234512341251".replaceAll("(.)", t + "$1");
        }
        StringBuilder s = new StringBuilder();
        for (int i = between(0, 30); i > 0; i--) {
            s.append((char) between(0, draws.nextInt(8) == 0 ? 255 : 3)).append((char) between(0, Math.min(keys - 1, 255)));
        }
        return s + (draws.nextInt(4) == 0 ? "a" : "");
    }

    private void step() {
        String[] words = CALLS[draws.nextInt(CALLS.length)].split(" ");
        switch (words[0]) {
            case "row":
                tell(rowText());
                break;
            case "policy":
                tell(one("", " ") + one("lru", "mru", "fifo", "lfu", "min", "lfu", "min", "fifo", "mru", "lruu", "", "mi n") + one("", "", "", " ", " 1", "lru"));
                break;
            case "law":
                tell(text(draws.nextInt(40) == 0));
                break;
            case "orders":
                tell(text(draws.nextInt(40) > 0));
                break;
            default:
                break;
        }
        Object[] args = new Object[words.length - 1];
        for (int i = 0; i < args.length; i++) {
            args[i] = argument(words[i + 1]);
        }
        if (words[0].equals("loop") && draws.nextInt(3) > 0) {
            args[2] = (Integer) args[1] + between(0, 10);
        }
        if (words[0].equals("drop") && draws.nextInt(3) > 0 && naive.top((Integer) args[0], 1) >= 0) {
            args[1] = naive.top((Integer) args[0], between(1, naive.of((Integer) args[0], 0)));
        }
        if (words[0].equals("seen") && draws.nextInt(2) == 0) {
            args[1] = naive.misses(between(0, 3), (Integer) args[0]);
        }
        if (words[0].equals("salted") && draws.nextInt(4) > 0) {
            args[0] = 0;
        }
        call(words[0], args);
        call("status");
        if (words[0].equals("law") && naive.status == 0 && draws.nextInt(3) > 0) {
            call("force", naive.st.laws.size() - 1);
        }
        if (words[0].equals("orders") && draws.nextInt(3) == 0) {
            for (int i = between(1, 18); i > 0; i--) {
                call("undo");
            }
        }
        if (words[0].equals("report")) {
            for (int i = 0; i <= naive.report.length(); i++) {
                call("sign", i);
            }
        }
    }

    private void compareAll() {
        for (int t = 0; t < 4; t++) {
            for (int i = 0; i <= 28; i++) {
                call("of", t, i);
            }
            for (int p = 1; p <= 24; p++) {
                call("top", t, p);
                call("guess", t, p);
                call("hull", t, p);
                call("misses", t, p);
                call("replay", t, p);
                call("drawn", t, p);
            }
            for (int i = -1; i < 25; i++) {
                call("bend", t, i);
            }
            for (int k = 0; k < Math.min(keys, 25); k++) {
                for (int what = 0; what <= 4; what++) {
                    call("key", t, k, what);
                }
            }
            call("odd", t);
            call("spilt", t);
            call("share", 30, t);
        }
        for (int i = 0; i < 15; i++) {
            call("count", i);
        }
        call("ask", 0);
        call("ask", 1);
        call("fault");
        call("stopped");
        call("blanks");
    }

    public static void main(String[] args) {
        int runs = args.length > 0 ? Integer.parseInt(args[0]) : 250;
        long from = args.length > 1 ? Long.parseLong(args[1]) : 1;
        int wrong = 0;
        for (long seed = from; seed < from + runs && wrong < 3; seed++) {
            RandomRunsTest run = new RandomRunsTest(seed);
            for (int i = 0; i < 250 && !run.failed; i++) {
                run.step();
                if (i % 25 == 24) {
                    run.compareAll();
                }
            }
            if (run.failed) {
                wrong++;
                System.out.println("the run with seed " + seed + " went wrong");
            }
        }
        System.out.println(wrong == 0 ? runs + " drawn runs are answered alike" : wrong + " drawn runs differ");
        if (wrong != 0) {
            System.exit(1);
        }
    }
}
