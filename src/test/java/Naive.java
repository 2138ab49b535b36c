import java.math.BigInteger;
import java.util.ArrayList;
import java.util.Collections;
import java.util.HashMap;
import java.util.List;
import java.util.Map;

/**
 * The document read a second time, in the slowest and plainest way: lists, trees, all pairs, all rows.
 * It knows nothing of how MissCurves does it; tests compare the answers of both.
 */
final class Naive {
    static final class Fault extends RuntimeException {
        final int place;

        Fault(int place) {
            this.place = place;
        }
    }

    static final class Broken extends RuntimeException {
    }

    static final class Refused extends RuntimeException {
        final int code;

        Refused(int code) {
            this.code = code;
        }
    }

    /** A tree of a TEXT: an operator with parts, or a number, or a word. */
    static final class Tree {
        String op;
        long number;
        List<Tree> parts = new ArrayList<>();

        Tree(String op) {
            this.op = op;
        }
    }

    static final class Clause {
        String kind;
        List<Tree> sums = new ArrayList<>();
        int times = 1;
        Tree test;
    }

    static final class One {
        List<Integer> stack = new ArrayList<>();
        long[] costs = new long[25];
        List<Integer> sample = new ArrayList<>();
        int limit = 1000;
        BigInteger[] parts = new BigInteger[1002];
        List<Integer> record = new ArrayList<>();

        One() {
            clearSample();
        }

        void clearSample() {
            sample.clear();
            limit = 1000;
            for (int i = 0; i < parts.length; i++) {
                parts[i] = BigInteger.ZERO;
            }
        }

        One copy() {
            One c = new One();
            c.stack = new ArrayList<>(stack);
            c.costs = costs.clone();
            c.sample = new ArrayList<>(sample);
            c.limit = limit;
            c.parts = parts.clone();
            c.record = new ArrayList<>(record);
            return c;
        }

        long misses(int c) {
            long sum = costs[0];
            for (int p = c + 1; p <= 24; p++) {
                sum += costs[p];
            }
            return sum;
        }
    }

    static final class State {
        List<One> ones = new ArrayList<>();
        int[] terms = {0, 1, 0, 0};
        int policy = 0;
        List<int[]> seen = new ArrayList<>();
        List<List<Clause>> laws = new ArrayList<>();
        int force = -1;

        State() {
            for (int i = 0; i < 4; i++) {
                ones.add(new One());
            }
        }

        State copy() {
            State c = new State();
            for (int i = 0; i < 4; i++) {
                c.ones.set(i, ones.get(i).copy());
            }
            c.terms = terms.clone();
            c.policy = policy;
            c.seen = new ArrayList<>(seen);
            c.laws = new ArrayList<>(laws);
            c.force = force;
            return c;
        }
    }

    State st = new State();
    /** Each with a kind and the state ahead of it. */
    List<Object[]> undos = new ArrayList<>();
    State[] images = new State[2];
    State drawn;
    List<Integer> tape = new ArrayList<>();
    int fault = -1;
    int blanks = 0;
    int stopped = -1;
    int status = 0;
    String report = "";
    int[] refused = new int[7];

    interface Call {
        int run();
    }

    int tell(Call call) {
        try {
            int answer = call.run();
            status = 0;
            return answer;
        } catch (Refused r) {
            status = r.code;
            refused[-r.code]++;
            return r.code;
        }
    }

    static void need(boolean so, int code) {
        if (!so) {
            throw new Refused(code);
        }
    }

    static boolean in(int x, int from, int to) {
        return x >= from && x <= to;
    }

    // ---- the languages

    static final class Tok {
        String text;
        int at;

        Tok(String text, int at) {
            this.text = text;
            this.at = at;
        }

        boolean number() {
            return text.matches("[0-9]+");
        }

        boolean atMost(int n) {
            return number() && new BigInteger(text).compareTo(BigInteger.valueOf(n)) <= 0;
        }
    }

    static final class Text {
        List<Tok> toks = new ArrayList<>();
        int i = 0;
        int parts = 0;
        int open = 0;
        boolean orders;

        Text(List<Integer> bytes, boolean orders) {
            this.orders = orders;
            StringBuilder sb = new StringBuilder();
            for (int b : bytes) {
                sb.append((char) b);
            }
            java.util.regex.Matcher m = java.util.regex.Pattern.compile("[a-z]+|[0-9]+|[^ ]", java.util.regex.Pattern.DOTALL)
                .matcher(sb);
            while (m.find()) {
                toks.add(new Tok(m.group(), m.start()));
            }
            toks.add(new Tok("", bytes.size()));
        }

        Tok now() {
            return toks.get(i);
        }

        boolean is(String s) {
            return now().text.equals(s);
        }

        Fault fault() {
            return new Fault(now().at);
        }

        void want(String s) {
            if (!is(s)) {
                throw fault();
            }
            i++;
        }

        List<Clause> clauses() {
            List<Clause> all = new ArrayList<>();
            while (true) {
                if (all.size() == 12) {
                    throw fault();
                }
                all.add(clause());
                if (is("")) {
                    return all;
                }
                want(";");
            }
        }

        Clause clause() {
            Clause c = new Clause();
            c.kind = now().text;
            List<String> kinds = orders ? List.of("read", "loop", "drop", "pass") : List.of("costs", "bars");
            if (!kinds.contains(c.kind)) {
                throw fault();
            }
            i++;
            if (c.kind.equals("costs")) {
                c.sums.add(sum());
            }
            if (orders && !c.kind.equals("pass")) {
                c.sums.add(sum());
                if (c.kind.equals("loop")) {
                    want("to");
                    c.sums.add(sum());
                }
                want("by");
                c.sums.add(sum());
            }
            if (orders && is("times")) {
                i++;
                if (!now().atMost(20) || now().atMost(0)) {
                    throw fault();
                }
                c.times = new BigInteger(now().text).intValue();
                i++;
            }
            if (is("if")) {
                i++;
                c.test = test();
            }
            return c;
        }

        Tree join(Tree a, String op, Tree b) {
            Tree t = new Tree(op);
            t.parts.add(a);
            t.parts.add(b);
            return t;
        }

        Tree test() {
            Tree t = both();
            while (is("or")) {
                i++;
                t = join(t, "or", both());
            }
            return t;
        }

        Tree both() {
            Tree t = plain();
            while (is("and")) {
                i++;
                t = join(t, "and", plain());
            }
            return t;
        }

        Tree plain() {
            if (is("not")) {
                i++;
                Tree t = new Tree("not");
                t.parts.add(plain());
                return t;
            }
            if (is("(")) {
                openOne();
                Tree t = test();
                want(")");
                open--;
                return t;
            }
            Tree a = sum();
            String op = now().text;
            if (!is("<") && !is(">") && !is("=")) {
                throw fault();
            }
            i++;
            return join(a, op, sum());
        }

        void openOne() {
            if (open == 8) {
                throw fault();
            }
            open++;
            i++;
        }

        Tree sum() {
            Tree t = term();
            while (is("+") || is("-")) {
                String op = now().text;
                i++;
                t = join(t, op, term());
            }
            return t;
        }

        Tree term() {
            Tree t = part();
            while (is("*") || is("/") || is("%")) {
                String op = now().text;
                i++;
                t = join(t, op, part());
            }
            return t;
        }

        Tree part() {
            if (is("[")) {
                openOne();
                Tree t = sum();
                want("]");
                open--;
                return t;
            }
            List<String> words = orders ? List.of("time", "done", "latest", "cold", "deep")
                : List.of("tenant", "key", "reads", "far", "time", "mood");
            Tok tok = now();
            if (!tok.atMost(1000) && !words.contains(tok.text)) {
                throw fault();
            }
            if (parts == 50) {
                throw fault();
            }
            parts++;
            i++;
            if (tok.number()) {
                Tree t = new Tree("number");
                t.number = new BigInteger(tok.text).longValue();
                return t;
            }
            String word = tok.text;
            if (word.equals("cold") || word.equals("deep")) {
                if (!now().atMost(3)) {
                    throw fault();
                }
                word = word + new BigInteger(now().text);
                i++;
            }
            return new Tree(word);
        }
    }

    static long within(long x) {
        if (x > 1000000000L || x < -1000000000L) {
            throw new Broken();
        }
        return x;
    }

    static long sum(Tree t, Map<String, Long> words) {
        if (t.op.equals("number")) {
            return t.number;
        }
        if (t.parts.isEmpty()) {
            return words.get(t.op);
        }
        long a = sum(t.parts.get(0), words);
        long b = sum(t.parts.get(1), words);
        switch (t.op) {
            case "+":
                return within(a + b);
            case "-":
                return within(a - b);
            case "*":
                return within(a * b);
            default:
                if (b == 0) {
                    throw new Broken();
                }
                return t.op.equals("/") ? a / b : a - b * (a / b);
        }
    }

    static boolean test(Tree t, Map<String, Long> words) {
        switch (t.op) {
            case "or":
                return test(t.parts.get(0), words) || test(t.parts.get(1), words);
            case "and":
                return test(t.parts.get(0), words) && test(t.parts.get(1), words);
            case "not":
                return !test(t.parts.get(0), words);
            default:
                long a = sum(t.parts.get(0), words);
                long b = sum(t.parts.get(1), words);
                return t.op.equals("<") ? a < b : t.op.equals(">") ? a > b : a == b;
        }
    }

    static boolean isSo(Tree t, Map<String, Long> words) {
        try {
            return t == null || test(t, words);
        } catch (Broken b) {
            return false;
        }
    }

    // ---- reads

    static Map<String, Long> lawWords(State s, int tenant, int key) {
        Map<String, Long> w = new HashMap<>();
        One o = s.ones.get(tenant);
        w.put("tenant", (long) tenant);
        w.put("key", (long) key);
        w.put("reads", (long) Collections.frequency(o.record, key));
        w.put("far", (long) o.stack.indexOf(key) + 1);
        w.put("time", (long) s.terms[0]);
        w.put("mood", (long) s.terms[2]);
        return w;
    }

    static int cost(State s, int law, int tenant, int key) {
        long cost = 1;
        if (law >= 0) {
            for (Clause c : s.laws.get(law)) {
                if (!c.kind.equals("costs") || !isSo(c.test, lawWords(s, tenant, key))) {
                    continue;
                }
                try {
                    cost = sum(c.sums.get(0), lawWords(s, tenant, key));
                } catch (Broken b) {
                    continue;
                }
            }
        }
        return (int) Math.min(99, Math.max(0, cost));
    }

    static boolean barred(State s, int tenant, int key) {
        if (s.force >= 0) {
            for (Clause c : s.laws.get(s.force)) {
                if (c.kind.equals("bars") && isSo(c.test, lawWords(s, tenant, key))) {
                    return true;
                }
            }
        }
        return false;
    }

    static int hash(State s, int key) {
        return (617 * key + s.terms[3]) % 1000;
    }

    static int doRead(State s, int tenant, int key) {
        One o = s.ones.get(tenant);
        int cost = cost(s, s.force, tenant, key);
        if (barred(s, tenant, key)) {
            o.costs[0] += cost;
            return 0;
        }
        int place = o.stack.indexOf(key) + 1;
        o.costs[place] += cost;
        o.stack.remove((Integer) key);
        o.stack.add(0, key);
        if (o.stack.size() > 24) {
            o.stack.remove(24);
        }
        o.record.add(key);
        if (o.record.size() > 32) {
            o.record.remove(0);
        }
        if (hash(s, key) < o.limit) {
            int at = o.sample.indexOf(key) + 1;
            int scaled = at == 0 ? 1001 : Math.min(1001, at * 1000 / o.limit);
            if (scaled > 24) {
                scaled = 1001;
            }
            o.parts[scaled] = o.parts[scaled].add(BigInteger.valueOf(1000000L * cost / o.limit));
            o.sample.remove((Integer) key);
            o.sample.add(0, key);
            if (o.sample.size() > 6) {
                int greatest = 0;
                for (int k : o.sample) {
                    greatest = Math.max(greatest, hash(s, k));
                }
                o.limit = greatest;
                o.sample.removeIf(k -> hash(s, k) >= o.limit);
            }
        }
        return place;
    }

    static int doDrop(State s, int tenant, int key) {
        One o = s.ones.get(tenant);
        int place = o.stack.indexOf(key) + 1;
        o.stack.remove((Integer) key);
        o.sample.remove((Integer) key);
        return place;
    }

    static int doPass(State s) {
        long sum = 0;
        for (One o : s.ones) {
            for (int i = 0; i < 25; i++) {
                o.costs[i] /= 2;
                sum += o.costs[i];
            }
            for (int i = 0; i < o.parts.length; i++) {
                o.parts[i] = o.parts[i].shiftRight(1);
            }
        }
        s.terms[0]++;
        return (int) sum;
    }

    void keep(int kind) {
        undos.add(new Object[] {kind, st.copy()});
        if (undos.size() > 16) {
            undos.remove(0);
        }
    }

    int plainRead(int tenant, int key) {
        need(in(tenant, 0, 3) && in(key, 0, 999), -1);
        keep(0);
        return doRead(st, tenant, key);
    }

    int plainLoop(int tenant, int from, int to) {
        need(in(tenant, 0, 3) && in(from, 0, 999) && in(to, from, 999) && to - from + 1 <= 32, -1);
        keep(1);
        int cold = 0;
        for (int k = from; k <= to; k++) {
            if (doRead(st, tenant, k) == 0) {
                cold++;
            }
        }
        return cold;
    }

    int plainDrop(int tenant, int key) {
        need(in(tenant, 0, 3) && in(key, 0, 999), -1);
        need(st.ones.get(tenant).stack.contains(key), -3);
        keep(2);
        return doDrop(st, tenant, key);
    }

    int plainPass() {
        need(st.terms[0] < 999, -3);
        keep(3);
        return doPass(st);
    }

    // ---- the face

    int of(int tenant, int what) {
        if (!in(tenant, 0, 3) || !in(what, 0, 28)) {
            return -1;
        }
        One o = st.ones.get(tenant);
        if (what < 4) {
            return new int[] {o.stack.size(), o.sample.size(), o.limit, o.record.size()}[what];
        }
        return (int) o.costs[what - 4];
    }

    int top(int tenant, int place) {
        if (!in(tenant, 0, 3) || !in(place, 1, st.ones.get(tenant).stack.size())) {
            return -1;
        }
        return st.ones.get(tenant).stack.get(place - 1);
    }

    int key(int tenant, int key, int what) {
        if (!in(tenant, 0, 3) || !in(key, 0, 999) || !in(what, 0, 4)) {
            return -1;
        }
        One o = st.ones.get(tenant);
        return new int[] {o.stack.indexOf(key) + 1, o.sample.indexOf(key) + 1, hash(st, key),
            cost(st, st.force, tenant, key), barred(st, tenant, key) ? 1 : 0}[what];
    }

    int terms(int what, int value) {
        return tell(() -> {
            need(in(what, 0, 3) && in(value, 0, new int[] {999, 10, 9, 999}[what]), -1);
            int was = st.terms[what];
            st.terms[what] = value;
            if (what == 3) {
                for (One o : st.ones) {
                    o.clearSample();
                }
            }
            undos.clear();
            return was;
        });
    }

    int feed(int a, int b, int c, int d, int e) {
        if (tape.size() > 380) {
            return -1;
        }
        for (int x : new int[] {a, b, c, d, e}) {
            for (int s = 24; s >= 0; s -= 8) {
                tape.add(x >> s & 255);
            }
        }
        return tape.size();
    }

    int end(int n) {
        if (!in(n, 0, tape.size())) {
            return -1;
        }
        tape = new ArrayList<>(tape.subList(0, n));
        return n;
    }

    List<Integer> takeTape() {
        List<Integer> text = tape;
        tape = new ArrayList<>();
        return text;
    }

    int row() {
        return tell(() -> {
            need(!tape.isEmpty(), -6);
            List<Integer> text = takeTape();
            blanks = 0;
            int reads = 0;
            while (!text.isEmpty()) {
                if (text.size() > 1 && text.get(0) <= 3) {
                    doRead(st, text.get(0), text.get(1));
                    reads++;
                } else {
                    blanks++;
                }
                text = text.subList(Math.min(2, text.size()), text.size());
            }
            undos.clear();
            return reads;
        });
    }

    int policy() {
        return tell(() -> {
            List<Tok> toks = new Text(takeTape(), false).toks;
            int named = List.of("lru", "mru", "fifo", "lfu", "min").indexOf(toks.get(0).text);
            fault = named < 0 ? toks.get(0).at : toks.size() > 2 ? toks.get(1).at : -1;
            need(fault < 0, -6);
            st.policy = named;
            return named;
        });
    }

    List<Clause> parse(boolean orders) {
        try {
            List<Clause> all = new Text(takeTape(), orders).clauses();
            fault = -1;
            return all;
        } catch (Fault f) {
            fault = f.place;
            throw new Refused(-6);
        }
    }

    int law() {
        return tell(() -> {
            if (st.laws.size() == 6) {
                takeTape();
                throw new Refused(-5);
            }
            st.laws.add(parse(false));
            return st.laws.size() - 1;
        });
    }

    Map<String, Long> orderWords(int done, int latest) {
        Map<String, Long> w = new HashMap<>();
        w.put("time", (long) st.terms[0]);
        w.put("done", (long) done);
        w.put("latest", (long) latest);
        for (int t = 0; t < 4; t++) {
            w.put("cold" + t, st.ones.get(t).costs[0]);
            w.put("deep" + t, (long) st.ones.get(t).stack.size());
        }
        return w;
    }

    int runOne(Clause c, Map<String, Long> w) {
        int[] v = new int[c.sums.size()];
        for (int i = 0; i < v.length; i++) {
            v[i] = (int) sum(c.sums.get(i), w);
        }
        switch (c.kind) {
            case "read":
                return plainRead(v[1], v[0]);
            case "loop":
                return plainLoop(v[2], v[0], v[1]);
            case "drop":
                return plainDrop(v[1], v[0]);
            default:
                return plainPass();
        }
    }

    int orders() {
        return tell(() -> {
            stopped = -1;
            List<Clause> all = parse(true);
            State before = st.copy();
            List<Object[]> undosBefore = new ArrayList<>(undos);
            int done = 0;
            int latest = -1;
            for (int i = 0; i < all.size(); i++) {
                for (int n = 0; n < all.get(i).times; n++) {
                    Clause c = all.get(i);
                    if (!isSo(c.test, orderWords(done, latest))) {
                        continue;
                    }
                    try {
                        int told = runOne(c, orderWords(done, latest));
                        done++;
                        if (c.kind.equals("read") || c.kind.equals("loop")) {
                            latest = told;
                        }
                    } catch (Broken | Refused r) {
                        st = before;
                        undos = undosBefore;
                        stopped = i;
                        throw new Refused(-3);
                    }
                }
            }
            return done;
        });
    }

    int force(int law) {
        return tell(() -> {
            need(in(law, -1, st.laws.size() - 1), -2);
            int was = st.force;
            st.force = law;
            return was;
        });
    }

    int read(int tenant, int key) {
        return tell(() -> plainRead(tenant, key));
    }

    int loop(int tenant, int from, int to) {
        return tell(() -> plainLoop(tenant, from, to));
    }

    int drop(int tenant, int key) {
        return tell(() -> plainDrop(tenant, key));
    }

    int pass() {
        return tell(this::plainPass);
    }

    int undo() {
        return tell(() -> {
            need(!undos.isEmpty(), -3);
            Object[] last = undos.remove(undos.size() - 1);
            State was = (State) last[1];
            st.ones = was.copy().ones;
            st.terms[0] = was.terms[0];
            return (Integer) last[0];
        });
    }

    int misses(int tenant, int c) {
        return in(tenant, 0, 3) && in(c, 0, 24) ? (int) st.ones.get(tenant).misses(c) : -1;
    }

    /** The lowest line at c as {above, below the stroke}. */
    static BigInteger[] lowest(One o, int c) {
        BigInteger[] low = {BigInteger.valueOf(o.misses(c)), BigInteger.ONE};
        for (int a = 0; a <= c; a++) {
            for (int b = c; b <= 24; b++) {
                if (a < b) {
                    BigInteger up = BigInteger.valueOf(o.misses(a) * (b - c) + o.misses(b) * (c - a));
                    BigInteger down = BigInteger.valueOf(b - a);
                    if (up.multiply(low[1]).compareTo(low[0].multiply(down)) < 0) {
                        low = new BigInteger[] {up, down};
                    }
                }
            }
        }
        return low;
    }

    long hull(int tenant, int c) {
        if (!in(tenant, 0, 3) || !in(c, 0, 24)) {
            return -1;
        }
        BigInteger[] low = lowest(st.ones.get(tenant), c);
        return low[0].multiply(BigInteger.valueOf(1000)).divide(low[1]).longValue();
    }

    static List<Integer> bends(One o) {
        List<Integer> all = new ArrayList<>();
        all.add(0);
        for (int c = 1; c < 24; c++) {
            boolean below = true;
            for (int a = 0; a < c; a++) {
                for (int b = c + 1; b <= 24; b++) {
                    below &= o.misses(c) * (b - a) < o.misses(a) * (b - c) + o.misses(b) * (c - a);
                }
            }
            if (below) {
                all.add(c);
            }
        }
        all.add(24);
        return all;
    }

    int bend(int tenant, int i) {
        if (!in(tenant, 0, 3)) {
            return -1;
        }
        List<Integer> all = bends(st.ones.get(tenant));
        return i == -1 ? all.size() : in(i, 0, all.size() - 1) ? all.get(i) : -1;
    }

    int report(int tenant) {
        if (!in(tenant, 0, 3)) {
            return -1;
        }
        List<String> rows = new ArrayList<>();
        for (int c : bends(st.ones.get(tenant))) {
            rows.add(c + ":" + st.ones.get(tenant).misses(c));
        }
        report = String.join(",", rows) + ".";
        return report.length();
    }

    int sign(int i) {
        return in(i, 0, report.length() - 1) ? report.charAt(i) : -1;
    }

    int guess(int tenant, int c) {
        if (!in(tenant, 0, 3) || !in(c, 0, 24)) {
            return -1;
        }
        BigInteger sum = BigInteger.ZERO;
        for (int p = c + 1; p <= 1001; p++) {
            sum = sum.add(st.ones.get(tenant).parts[p]);
        }
        return sum.divide(BigInteger.valueOf(1000)).min(BigInteger.valueOf(2000000000L)).intValue();
    }

    int salted(int tenant, int limit) {
        if (!in(tenant, 0, 3) || !in(limit, 1, 1000)) {
            return -1;
        }
        int n = 0;
        for (int k : st.ones.get(tenant).record) {
            for (int salt = 0; salt < 1000; salt++) {
                n += (617 * k + salt) % 1000 < limit ? 1 : 0;
            }
        }
        return n;
    }

    int share(int size, int tenant) {
        if (!in(tenant, 0, 3) || !in(size, 0, 48)) {
            return -1;
        }
        BigInteger[][] falls = new BigInteger[4][];
        int[] got = new int[4];
        for (int n = 0; n < size; n++) {
            int most = -1;
            for (int t = 0; t < 4; t++) {
                if (got[t] == 24) {
                    continue;
                }
                BigInteger[] x = lowest(st.ones.get(t), got[t]);
                BigInteger[] y = lowest(st.ones.get(t), got[t] + 1);
                falls[t] = new BigInteger[] {x[0].multiply(y[1]).subtract(y[0].multiply(x[1])), x[1].multiply(y[1])};
                if (most < 0 || falls[t][0].multiply(falls[most][1]).compareTo(falls[most][0].multiply(falls[t][1])) > 0) {
                    most = t;
                }
            }
            got[most]++;
        }
        return got[tenant];
    }

    int best(int size, int tenant) {
        if (!in(tenant, -1, 3) || !in(size, 0, 48)) {
            return -1;
        }
        long[][] m = new long[4][25];
        for (int t = 0; t < 4; t++) {
            for (int c = 0; c < 25; c++) {
                m[t][c] = st.ones.get(t).misses(c);
            }
        }
        long fewest = Long.MAX_VALUE;
        int[] best = null;
        for (int a = 0; a <= 24; a++) {
            for (int b = 0; b <= 24; b++) {
                for (int c = 0; c <= 24; c++) {
                    for (int d = 0; d <= 24 && a + b + c + d <= size; d++) {
                        long sum = m[0][a] + m[1][b] + m[2][c] + m[3][d];
                        if (sum < fewest) {
                            fewest = sum;
                            best = new int[] {a, b, c, d};
                        }
                    }
                }
            }
        }
        return tenant == -1 ? (int) fewest : best[tenant];
    }

    /** What is held behind each READ; the misses come as the last of the answer. */
    Object[] replayed(One o, int c) {
        List<List<Integer>> behind = new ArrayList<>();
        List<Integer> held = new ArrayList<>();
        int missed = 0;
        for (int i = 0; i < o.record.size(); i++) {
            int k = o.record.get(i);
            if (!held.contains(k)) {
                missed++;
                if (c > 0) {
                    if (held.size() == c) {
                        held.remove((Integer) leaver(o.record, i, held));
                    }
                    held.add(k);
                }
            }
            behind.add(new ArrayList<>(held));
        }
        return new Object[] {behind, missed};
    }

    /** The held are in the order in which they came to be held. */
    int leaver(List<Integer> record, int i, List<Integer> held) {
        List<Integer> past = record.subList(0, i);
        List<Integer> future = record.subList(i, record.size());
        List<Integer> those = new ArrayList<>(held);
        switch (st.policy) {
            case 0:
                those.sort((a, b) -> past.lastIndexOf(a) - past.lastIndexOf(b));
                return those.get(0);
            case 1:
                those.sort((a, b) -> past.lastIndexOf(b) - past.lastIndexOf(a));
                return those.get(0);
            case 2:
                return those.get(0);
            case 3:
                those.sort((a, b) -> {
                    int x = Collections.frequency(past, a);
                    int y = Collections.frequency(past, b);
                    return x != y ? x - y : past.lastIndexOf(a) - past.lastIndexOf(b);
                });
                return those.get(0);
            default:
                those.sort((a, b) -> {
                    int x = future.contains(a) ? future.indexOf(a) : 1000;
                    int y = future.contains(b) ? future.indexOf(b) : 1000;
                    return x != y ? y - x : a - b;
                });
                return those.get(0);
        }
    }

    int replay(int tenant, int c) {
        return in(tenant, 0, 3) && in(c, 0, 24) ? (Integer) replayed(st.ones.get(tenant), c)[1] : -1;
    }

    int odd(int tenant) {
        for (int c = 0; c <= 23 && in(tenant, 0, 3); c++) {
            if (replay(tenant, c + 1) > replay(tenant, c)) {
                return c;
            }
        }
        return -1;
    }

    @SuppressWarnings("unchecked")
    int spilt(int tenant) {
        if (!in(tenant, 0, 3)) {
            return -1;
        }
        One o = st.ones.get(tenant);
        List<List<List<Integer>>> all = new ArrayList<>();
        for (int c = 0; c <= 24; c++) {
            all.add((List<List<Integer>>) replayed(o, c)[0]);
        }
        for (int i = 0; i < o.record.size(); i++) {
            for (int c = 1; c <= 23; c++) {
                if (!all.get(c + 1).get(i).containsAll(all.get(c).get(i))) {
                    return i;
                }
            }
        }
        return -1;
    }

    int seen(int c, int n) {
        return tell(() -> {
            need(in(c, 0, 24) && in(n, 0, 99999), -1);
            need(st.seen.size() < 6, -5);
            st.seen.add(new int[] {c, n});
            return st.seen.size();
        });
    }

    int forget() {
        int was = st.seen.size();
        st.seen.clear();
        return was;
    }

    int canBe() {
        int bits = 0;
        for (int t = 0; t < 4; t++) {
            boolean all = true;
            for (int[] s : st.seen) {
                all &= misses(t, s[0]) == s[1];
            }
            bits += all ? 1 << t : 0;
        }
        return bits;
    }

    int ask(int what) {
        int bits = canBe();
        int size = -1;
        int left = 99;
        for (int c = 0; c <= 24; c++) {
            Map<Integer, Integer> groups = new HashMap<>();
            for (int t = 0; t < 4; t++) {
                if ((bits >> t & 1) == 1) {
                    groups.merge(misses(t, c), 1, Integer::sum);
                }
            }
            int most = groups.isEmpty() ? 99 : Collections.max(groups.values());
            if (most < left) {
                left = most;
                size = c;
            }
        }
        return bits == 0 || !in(what, 0, 1) ? -1 : what == 0 ? size : left;
    }

    long few(int k, int n) {
        if (!in(k, 1, 20) || !in(n, 0, 99)) {
            return -1;
        }
        long[] p = new long[101];
        p[0] = 1000000000000L;
        for (int i = 0; i < n; i++) {
            long[] q = new long[101];
            for (int j = 0; j < 100; j++) {
                q[j] += p[j] * (10 - st.terms[1]) / 10;
                q[j + 1] += p[j] * st.terms[1] / 10;
            }
            p = q;
        }
        long sum = 0;
        for (int j = 0; j < k; j++) {
            sum += p[j];
        }
        return sum;
    }

    int compare(int law, int tenant, int key) {
        return in(law, -1, st.laws.size() - 1) && in(tenant, 0, 3) && in(key, 0, 999) ? cost(st, law, tenant, key) : -1;
    }

    int months(int seed, int n) {
        return tell(() -> {
            need(in(seed, 0, 1000000) && in(n, 1, 60), -1);
            drawn = st.copy();
            long s = seed;
            int cold = 0;
            for (int i = 0; i < n; i++) {
                if (drawn.terms[0] == 999) {
                    break;
                }
                int[] draws = new int[3];
                for (int j = 0; j < 3; j++) {
                    s = (s * 1103 + 12345) % 1000003;
                    draws[j] = (int) (s % new int[] {4, 20, 8}[j]);
                }
                if (draws[2] < 6) {
                    cold += doRead(drawn, draws[0], draws[1]) == 0 ? 1 : 0;
                } else if (draws[2] == 7) {
                    doPass(drawn);
                } else if (drawn.ones.get(draws[0]).stack.contains(draws[1])) {
                    doDrop(drawn, draws[0], draws[1]);
                }
            }
            return cold;
        });
    }

    int drawn(int tenant, int c) {
        return drawn != null && in(tenant, 0, 3) && in(c, 0, 24) ? (int) drawn.ones.get(tenant).misses(c) : -1;
    }

    int image(int k) {
        return tell(() -> {
            need(in(k, 0, 1), -1);
            images[k] = st.copy();
            return 0;
        });
    }

    int back(int k) {
        return tell(() -> {
            need(in(k, 0, 1), -1);
            need(images[k] != null, -2);
            st = images[k].copy();
            undos.clear();
            return 0;
        });
    }

    int count(int what) {
        if (!in(what, 0, 14)) {
            return -1;
        }
        return new int[] {st.policy, st.seen.size(), st.laws.size(), undos.size(), tape.size(), refused[1], refused[2],
            refused[3], refused[5], refused[6], st.force, st.terms[0], st.terms[1], st.terms[2], st.terms[3]}[what];
    }

    int status() {
        return status;
    }

    int fault() {
        return fault;
    }

    int blanks() {
        return blanks;
    }

    int stopped() {
        return stopped;
    }
}
