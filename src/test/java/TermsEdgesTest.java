import java.util.Map;

/** The boundary cases that sections I, III and IV of the document's 'Terms' name: a test for each sentence. */
public final class TermsEdgesTest {
    private static final Edges edges = new Edges();

    private static void sentence(String quote) {
        edges.sentence(quote);
    }

    private static void due(long want, long got) {
        edges.due(want, got);
    }

    // I.

    private static void tenantsAndKeys() {
        sentence("TENANTS 0 .. 3, KEYS 0 .. 999.");
        for (int t = 0; t <= 3; t++) {
            MissCurves x = new MissCurves();
            due(0, x.read(t, 0));
            due(0, x.read(t, 999));
            due(999, x.top(t, 1));
            due(0, x.top(t, 2));
        }
        for (int t : Edges.NO_TENANTS) {
            edges.refused(-1, Edges::rich, x -> x.read(t, 0));
            due(-1, new MissCurves().of(t, 0));
        }
        for (int k : Edges.NO_KEYS) {
            edges.refused(-1, Edges::rich, x -> x.read(0, k));
            due(-1, new MissCurves().key(0, k, 2));
        }
    }

    private static void stack() {
        sentence("a STACK of KEYS, 24 at most, the one read last on top (place 1; none at first)");
        MissCurves x = new MissCurves();
        due(0, x.of(0, 0));
        due(-1, x.top(0, 1));
        x.loop(0, 100, 122);
        due(23, x.of(0, 0));
        due(-1, x.top(0, 24));
        x.read(0, 123);
        due(24, x.of(0, 0));
        due(123, x.top(0, 1));
        due(100, x.top(0, 24));
        x.read(0, 124);
        due(24, x.of(0, 0));
        due(124, x.top(0, 1));
        due(101, x.top(0, 24));
        due(0, x.key(0, 100, 0));
        due(24, x.key(0, 101, 0));
        due(0, x.of(1, 0));
    }

    private static void costs() {
        sentence("COSTS by places 1 .. 24 and of COLD reads (0 at first)");
        for (int t = 0; t < 4; t++) {
            for (int what = 4; what <= 28; what++) {
                due(0, new MissCurves().of(t, what));
            }
        }
        MissCurves x = new MissCurves();
        x.loop(0, 0, 23);
        due(24, x.of(0, 4));
        due(1, x.read(0, 23));
        due(1, x.of(0, 5));
        due(24, x.read(0, 0));
        due(1, x.of(0, 28));
        due(-1, x.of(0, 29));
        due(24, x.of(0, 4));
    }

    /** TENANT 0 has these KEYS in its SAMPLE, and no others below 10. */
    private static void sampled(MissCurves x, int... keys) {
        due(keys.length, x.of(0, 1));
        int places = 0;
        for (int i = 0; i < keys.length; i++) {
            due(i + 1, x.key(0, keys[i], 1));
            places += i + 1;
        }
        for (int k = 0; k < 10; k++) {
            places -= x.key(0, k, 1);
        }
        due(0, places);
    }

    private static void sample() {
        sentence("a SAMPLE of KEYS, the one read last first, a LIMIT 1 .. 1,000 (1,000 at first)");
        MissCurves x = Edges.reads(0, 1, 2, 3);
        due(3, x.of(0, 1));
        due(1, x.key(0, 3, 1));
        due(3, x.key(0, 1, 1));
        x.read(0, 1);
        due(1, x.key(0, 1, 1));
        due(2, x.key(0, 3, 1));
        due(3, x.key(0, 2, 1));
        due(3, x.of(0, 1));
        // The first, one between and the last of six are read again.
        sampled(Edges.reads(0, 1, 2, 3, 4, 5, 6), 6, 5, 4, 3, 2, 1);
        sampled(Edges.reads(0, 1, 2, 3, 4, 5, 6, 6), 6, 5, 4, 3, 2, 1);
        sampled(Edges.reads(0, 1, 2, 3, 4, 5, 6, 5), 5, 6, 4, 3, 2, 1);
        sampled(Edges.reads(0, 1, 2, 3, 4, 5, 6, 3), 3, 6, 5, 4, 2, 1);
        sampled(Edges.reads(0, 1, 2, 3, 4, 5, 6, 1), 1, 6, 5, 4, 3, 2);
        for (int t = 0; t < 4; t++) {
            due(1000, new MissCurves().of(t, 2));
        }
        // No LIMIT is lower than 6: below it there are no more than 6 HASHES.
        MissCurves y = new MissCurves();
        for (int hash = 999; hash >= 0; hash -= 37) {
            y.read(0, Edges.keyOf(hash));
        }
        for (int hash = 6; hash >= 0; hash--) {
            y.read(0, Edges.keyOf(hash));
        }
        due(6, y.of(0, 2));
        due(6, y.of(0, 1));
        y.read(0, Edges.keyOf(6));
        y.read(0, Edges.keyOf(5));
        due(6, y.of(0, 2));
        due(6, y.of(0, 1));
    }

    private static void record() {
        sentence("a RECORD of the latest 32 reads that were not BARRED");
        MissCurves x = Edges.under("bars if key=50;costs reads");
        x.read(0, 7);
        x.read(0, 50);
        due(1, x.of(0, 3));
        x.loop(0, 100, 129);
        due(31, x.of(0, 3));
        x.read(0, 8);
        due(32, x.of(0, 3));
        due(1, x.key(0, 7, 3));
        x.read(0, 50);
        due(32, x.of(0, 3));
        due(1, x.key(0, 7, 3));
        x.read(0, 9);
        due(32, x.of(0, 3));
        due(0, x.key(0, 7, 3));
        due(1, x.key(0, 100, 3));
        due(0, x.key(0, 50, 3));
    }

    private static void policies() {
        sentence("POLICY: 0 lru (at first), 1 mru, 2 fifo, 3 lfu, 4 min.");
        MissCurves x = new MissCurves();
        due(0, x.count(0));
        String[] names = {"lru", "mru", "fifo", "lfu", "min"};
        for (int i = 4; i >= 0; i--) {
            due(i, Edges.policy(x, names[i]));
            due(i, x.count(0));
        }
    }

    private static void seen() {
        sentence("SEEN, 6 at most: a TENANT nobody knows has MISSES n at a size c.");
        MissCurves x = new MissCurves();
        for (int i = 1; i <= 6; i++) {
            due(i, x.seen(i, 0));
        }
        due(-5, x.seen(7, 0));
        due(6, x.count(1));
        due(15, x.canBe());
        x.read(0, 1);
        due(14, x.canBe());
    }

    private static void termRanges() {
        sentence("TERMS: 0 TIME 0 .. 999 (0 at first), 1 LOSSES 0 .. 10 (1), 2 MOOD 0 .. 9 (0), 3 SALT 0 .. 999 (0;");
        int[] most = {999, 10, 9, 999};
        int[] first = {0, 1, 0, 0};
        for (int what = 0; what < 4; what++) {
            int one = what;
            due(first[what], new MissCurves().count(11 + what));
            due(first[what], new MissCurves().terms(what, 0));
            MissCurves x = new MissCurves();
            due(first[what], x.terms(what, most[what]));
            due(most[what], x.count(11 + what));
            due(most[what], x.terms(what, 0));
            due(0, x.count(11 + what));
            edges.refused(-1, Edges::rich, y -> y.terms(one, most[one] + 1));
            edges.refused(-1, Edges::rich, y -> y.terms(one, -1));
            edges.refused(-1, Edges::rich, y -> y.terms(one, Integer.MAX_VALUE));
            edges.refused(-1, Edges::rich, y -> y.terms(one, Integer.MIN_VALUE));
        }
    }

    private static void saltTold() {
        sentence("whenever it is told, all SAMPLES are empty, LIMITS 1,000, PARTS 0 then");
        for (int salt : new int[] {0, 77, 999}) {
            MissCurves x = new MissCurves();
            for (int t = 0; t < 4; t++) {
                x.loop(t, 0, 8);
                due(6, x.of(t, 1));
                // HASHES of 0 .. 8: 0 617 234 851 468 85 702 319 936; 936 falls, then 851 falls, then 702 does.
                due(702, x.of(t, 2));
            }
            x.terms(3, salt);
            for (int t = 0; t < 4; t++) {
                due(0, x.of(t, 1));
                due(1000, x.of(t, 2));
                due(0, x.guess(t, 0));
                due(0, x.key(t, 0, 1));
                due(9, x.of(t, 0));
                due(9, x.of(t, 3));
                due(9, x.misses(t, 0));
            }
        }
        // PARTS are 0 exactly: 7 times 1,000 and 3 times 166,666 come to 506,998.
        MissCurves y = limited(241, "costs 1");
        y.read(0, Edges.keyOf(0));
        y.terms(3, 0);
        for (int hash : new int[] {0, 1, 2, 3, 4, 5, 6, 5, 5, 5}) {
            y.read(0, Edges.keyOf(hash));
        }
        due(506, y.guess(0, 0));
        due(506, y.guess(0, 24));
        y.terms(3, 0);
        y.read(0, 0);
        due(1, y.guess(0, 0));
        due(1, y.guess(0, 24));
        for (int what = 0; what < 3; what++) {
            MissCurves x = new MissCurves();
            x.loop(0, 0, 8);
            int guessed = x.guess(0, 0);
            x.terms(what, 5);
            due(6, x.of(0, 1));
            due(702, x.of(0, 2));
            due(guessed, x.guess(0, 0));
        }
    }

    private static void bits() {
        sentence("Sets are told as bits.");
        MissCurves x = new MissCurves();
        for (int t = 3; t >= 0; t--) {
            due((1 << t + 1) - 1, x.canBe());
            x.read(t, 0);
            x.forget();
            x.seen(0, 0);
        }
        due(0, x.canBe());
    }

    private static void firstRefusal() {
        sentence("The first of these in that order.");
        Edges.Setup fullSeen = x -> {
            for (int i = 0; i < 6; i++) {
                x.seen(0, 0);
            }
        };
        edges.refused(-1, fullSeen, x -> x.seen(25, 0));
        edges.refused(-1, fullSeen, x -> x.seen(0, 100000));
        edges.refused(-5, fullSeen, x -> x.seen(24, 99999));
        edges.refused(-1, Edges.NOTHING, x -> x.back(2));
        edges.refused(-2, Edges.NOTHING, x -> x.back(1));
        edges.refused(-1, Edges.NOTHING, x -> x.drop(4, 0));
        edges.refused(-1, Edges.NOTHING, x -> x.drop(0, 1000));
        edges.refused(-3, Edges.NOTHING, x -> x.drop(3, 999));
        Edges.Setup fullLaws = x -> {
            for (int i = 0; i < 6; i++) {
                Edges.law(x, "bars");
            }
            Edges.tell(x, "bars,");
        };
        edges.refusedText(-5, -1, -1, fullLaws, MissCurves::law);
    }

    // III: what READS, LOOPS, DROPS and TIMES do.

    private static void coldOrBarred() {
        sentence("to those of COLD reads, if it is not there or BARRED");
        MissCurves x = Edges.under("costs 5;bars if reads>1");
        due(0, x.read(0, 1));
        due(5, x.of(0, 4));
        due(1, x.read(0, 1));
        due(5, x.of(0, 5));
        due(0, x.read(0, 1));
        due(10, x.of(0, 4));
        due(5, x.of(0, 5));
        sentence("one that is not BARRED is on top of the STACK then (the 25th falls off)");
        x.read(0, 2);
        due(0, x.read(0, 1));
        due(2, x.top(0, 1));
        due(1, x.top(0, 2));
        MissCurves y = new MissCurves();
        y.loop(0, 1, 24);
        due(24, y.read(0, 1));
        due(0, y.read(0, 25));
        due(24, y.of(0, 0));
        due(0, y.read(0, 2));
        due(24, y.read(0, 4));
        sentence("the last in the RECORD (of more than 32 the first goes)");
        MissCurves z = Edges.under("costs reads");
        z.read(0, 5);
        z.loop(0, 100, 130);
        due(1, z.key(0, 5, 3));
        z.read(0, 100);
        due(0, z.key(0, 5, 3));
        due(2, z.key(0, 100, 3));
        z.read(0, 101);
        due(1, z.key(0, 100, 3));
        due(32, z.of(0, 3));
    }

    private static void hashes() {
        sentence("HASH of a KEY: 617 times the KEY and SALT, modulo 1,000.");
        MissCurves x = new MissCurves();
        due(0, x.key(0, 0, 2));
        due(617, x.key(0, 1, 2));
        due(234, x.key(0, 2, 2));
        due(383, x.key(0, 999, 2));
        x.terms(3, 999);
        due(999, x.key(3, 0, 2));
        due(616, x.key(3, 1, 2));
        due(382, x.key(3, 999, 2));
        x.terms(3, 382);
        due(999, x.key(0, 1, 2));
        x.terms(3, 383);
        due(0, x.key(0, 1, 2));
        x.terms(3, 384);
        due(1, x.key(0, 1, 2));
    }

    /** HASHES 0 .. 5 stay, LIMIT is what is told. */
    private static MissCurves limited(int limit, String law) {
        MissCurves x = Edges.under(law);
        for (int hash = 0; hash < 6; hash++) {
            x.read(0, Edges.keyOf(hash));
        }
        x.read(0, Edges.keyOf(limit));
        return x;
    }

    private static void belowLimit() {
        sentence("A KEY is SAMPLED, if its HASH is below LIMIT");
        MissCurves x = limited(500, "costs 1");
        due(500, x.of(0, 2));
        due(6, x.of(0, 1));
        due(7, x.guess(0, 24));
        x.read(0, Edges.keyOf(500));
        x.read(0, Edges.keyOf(501));
        due(500, x.of(0, 2));
        due(6, x.of(0, 1));
        due(7, x.guess(0, 24));
        x.read(0, Edges.keyOf(499));
        due(499, x.of(0, 2));
        due(9, x.guess(0, 24));
        MissCurves y = new MissCurves();
        y.read(0, Edges.keyOf(999));
        due(1, y.of(0, 1));
    }

    /** With each SALT it is the HASH by it that tells which KEYS are SAMPLED and which leave. */
    private static void saltedSample() {
        sentence("HASH of a KEY: 617 times the KEY and SALT, modulo 1,000. A KEY is SAMPLED, if its HASH is below LIMIT");
        for (int salt : new int[] {0, 1, 383, 500, 999}) {
            MissCurves x = new MissCurves();
            x.terms(3, salt);
            int[] keys = new int[1000];
            for (int hash = 0; hash < 1000; hash++) {
                keys[hash] = Edges.keyOf((hash - salt + 1000) % 1000);
                due(hash, hash % 100 == 0 ? x.key(0, keys[hash], 2) : hash);
            }
            // The one read first, which is the last of the SAMPLE, has the greatest HASH.
            for (int hash : new int[] {700, 100, 600, 200, 500, 300, 400}) {
                x.read(0, keys[hash]);
            }
            due(700, x.of(0, 2));
            due(6, x.of(0, 1));
            due(0, x.key(0, keys[700], 1));
            due(1, x.key(0, keys[400], 1));
            due(6, x.key(0, keys[100], 1));
            x.read(0, keys[700]);
            x.read(0, keys[999]);
            due(700, x.of(0, 2));
            due(1, x.key(0, keys[400], 1));
            // The greatest of them is the one that comes.
            x.read(0, keys[699]);
            due(699, x.of(0, 2));
            due(0, x.key(0, keys[699], 1));
            // The greatest of them is one between.
            x.read(0, keys[0]);
            due(600, x.of(0, 2));
            due(6, x.of(0, 1));
            due(0, x.key(0, keys[600], 1));
            due(1, x.key(0, keys[0], 1));
            due(6, x.key(0, keys[100], 1));
        }
    }

    private static void samplePlaces() {
        sentence("(farther, if that is more than 24 or it is not there)");
        int last = Edges.keyOf(0);
        // Place 6 times 1,000 by 241 is 24, by 240 it is 25; 1,000,000 by 241 is 4,149, by 240 it is 4,166.
        MissCurves x = limited(241, "costs 1");
        due(6, x.key(0, last, 1));
        x.read(0, last);
        due(11, x.guess(0, 23));
        due(7, x.guess(0, 24));
        MissCurves y = limited(240, "costs 1");
        due(6, y.key(0, last, 1));
        y.read(0, last);
        due(11, y.guess(0, 23));
        due(11, y.guess(0, 24));
        // With LIMIT 1,000 a place is itself.
        MissCurves z = Edges.reads(0, 1, 2, 1);
        due(3, z.guess(0, 0));
        due(3, z.guess(0, 1));
        due(2, z.guess(0, 2));
        sentence("times 1,000 by LIMIT, cut, is the place");
        // 1 by 334 thousandths is 2.99: place 2.
        MissCurves w = limited(334, "costs 1");
        w.read(0, Edges.keyOf(5));
        due(9, w.guess(0, 1));
        due(7, w.guess(0, 2));
        // 1,000 by 143 is 6.99: place 6, not 7; 1,000,000 by 143 is 6,993.
        MissCurves u = limited(143, "costs 1");
        u.read(0, Edges.keyOf(5));
        due(13, u.guess(0, 5));
        due(7, u.guess(0, 6));
        MissCurves v = limited(333, "costs 1");
        v.read(0, Edges.keyOf(5));
        due(10, v.guess(0, 2));
        due(7, v.guess(0, 3));
    }

    private static void partsOfCost() {
        sentence("1,000,000 times the COST by LIMIT, cut (PARTS go beyond 2,000,000,000)");
        // 1,000,000 by 999 is 1,001.001: after 7 times 1,000 PARTS a thousand reads bring 1,001 each.
        MissCurves x = limited(999, "costs 1");
        for (int i = 0; i < 5; i++) {
            due(200, Edges.orders(x, "read 0 by 0 times 20;".repeat(9) + "read 0 by 0 times 20"));
        }
        due(1008, x.guess(0, 0));
        // 99,000,000 by 6 are 16,500,000 PARTS: 240 reads bring 3,960,000,000.
        MissCurves y = limited(6, "costs 99");
        due(240, Edges.orders(y, "read 0 by 0 times 20;".repeat(11) + "read 0 by 0 times 20"));
        due(3960693, y.guess(0, 24));
        y.pass();
        due(1980346, y.guess(0, 24));
    }

    private static void limitFalls() {
        sentence("if these are more than 6, LIMIT is the greatest HASH of them, and those of which the HASH is not below it leave");
        MissCurves x = new MissCurves();
        int[] hashes = {700, 100, 600, 200, 500, 300};
        for (int h : hashes) {
            x.read(0, Edges.keyOf(h));
        }
        due(6, x.of(0, 1));
        due(1000, x.of(0, 2));
        // One that is there already makes them no more.
        x.read(0, Edges.keyOf(700));
        due(6, x.of(0, 1));
        due(1000, x.of(0, 2));
        x.read(0, Edges.keyOf(400));
        due(6, x.of(0, 1));
        due(700, x.of(0, 2));
        due(0, x.key(0, Edges.keyOf(700), 1));
        due(1, x.key(0, Edges.keyOf(400), 1));
        due(2, x.key(0, Edges.keyOf(300), 1));
        due(6, x.key(0, Edges.keyOf(100), 1));
        // The one that was read last may be the one that leaves.
        x.read(0, Edges.keyOf(699));
        due(699, x.of(0, 2));
        due(0, x.key(0, Edges.keyOf(699), 1));
        due(1, x.key(0, Edges.keyOf(400), 1));
        due(6, x.of(0, 1));
    }

    private static void loops() {
        sentence("READS of all of these, rising (32 at most), one behind the other, each asked as all is ahead of it");
        MissCurves x = new MissCurves();
        due(32, x.loop(0, 0, 31));
        due(31, x.top(0, 1));
        due(8, x.top(0, 24));
        due(32, x.of(0, 3));
        due(32, x.loop(1, 968, 999));
        due(1, x.loop(2, 999, 999));
        edges.refused(-1, Edges::rich, y -> y.loop(0, 0, 32));
        edges.refused(-1, Edges::rich, y -> y.loop(0, 968, 1000));
        edges.refused(-1, Edges::rich, y -> y.loop(0, 8, 7));
        edges.refused(-1, Edges::rich, y -> y.loop(0, Integer.MIN_VALUE, Integer.MAX_VALUE));
        // 3 is read behind 2, so 2 is at place 2 when 3 has come; COSTS are far: with 2 ahead of it 3 is at 2.
        MissCurves y = Edges.under("costs far+10");
        y.read(0, 3);
        y.read(0, 2);
        due(0, y.loop(0, 2, 3));
        due(11, y.of(0, 5));
        due(12, y.of(0, 6));
        due(20, y.of(0, 4));
    }

    private static void drops() {
        sentence("To DROP: a KEY leaves the STACK and the SAMPLE.");
        MissCurves x = Edges.reads(0, 1, 2, 3);
        due(2, x.drop(0, 2));
        due(2, x.of(0, 0));
        due(2, x.of(0, 1));
        due(0, x.key(0, 2, 0));
        due(0, x.key(0, 2, 1));
        due(3, x.top(0, 1));
        due(1, x.top(0, 2));
        due(-1, x.top(0, 3));
        due(2, x.key(0, 1, 1));
        due(3, x.of(0, 3));
        due(3, x.of(0, 4));
        due(3, x.guess(0, 0));
        MissCurves six = Edges.reads(0, 1, 2, 3, 4, 5, 6);
        due(1, six.drop(0, 6));
        sampled(six, 5, 4, 3, 2, 1);
        due(5, six.drop(0, 1));
        sampled(six, 5, 4, 3, 2);
        due(2, six.drop(0, 4));
        sampled(six, 5, 3, 2);
        // The last one of a full STACK, one that is not in the SAMPLE.
        MissCurves y = new MissCurves();
        y.loop(0, 0, 23);
        due(24, y.drop(0, 0));
        due(23, y.of(0, 0));
        due(-1, y.top(0, 24));
        MissCurves z = limited(500, "costs 1");
        due(1, z.drop(0, Edges.keyOf(500)));
        due(6, z.of(0, 1));
        due(500, z.of(0, 2));
        // One that fell off the STACK is in the SAMPLE still, and can't be dropped.
        MissCurves w = new MissCurves();
        w.loop(0, 0, 24);
        due(0, w.key(0, 0, 0));
        due(6, w.key(0, 0, 1));
        due(-3, w.drop(0, 0));
        due(6, w.key(0, 0, 1));
    }

    private static void times() {
        sentence("A TIME: all COSTS and PARTS are halved (cut); it is the next TIME (at 999 it can't be).");
        MissCurves x = Edges.under("costs 7");
        x.read(0, 1);
        x.read(3, 1);
        x.read(3, 1);
        due(9, x.pass());
        due(3, x.of(0, 4));
        due(3, x.of(3, 4));
        due(3, x.of(3, 5));
        due(3, x.guess(0, 0));
        due(7, x.guess(3, 0));
        due(1, x.count(11));
        due(3, x.pass());
        due(1, x.of(0, 4));
        due(0, x.pass());
        due(0, x.of(0, 4));
        due(0, x.guess(0, 0));
        due(1, x.of(3, 0));
        due(2, x.of(3, 3));
        // Place 24, of COSTS and of PARTS.
        MissCurves far = Edges.under("costs 8");
        far.loop(1, 0, 23);
        far.read(1, 0);
        due(100, far.pass());
        due(4, far.of(1, 28));
        due(96, far.of(1, 4));
        MissCurves farther = limited(241, "costs 1");
        farther.read(0, Edges.keyOf(0));
        farther.pass();
        due(5, farther.guess(0, 0));
        due(5, farther.guess(0, 23));
        due(3, farther.guess(0, 24));
        MissCurves y = new MissCurves();
        y.terms(0, 998);
        due(0, y.pass());
        due(999, y.count(11));
        edges.refused(-3, z -> {
            Edges.rich(z);
            z.terms(0, 999);
            z.read(0, 0);
        }, MissCurves::pass);
    }

    // III, on paper.

    private static void misses() {
        sentence("MISSES of a TENANT at size c 0 .. 24: COSTS of COLD reads and of places beyond c together.");
        MissCurves x = new MissCurves();
        x.loop(0, 0, 23);
        x.read(0, 0);
        x.read(0, 0);
        due(26, x.misses(0, 0));
        due(25, x.misses(0, 1));
        due(25, x.misses(0, 23));
        due(24, x.misses(0, 24));
        due(-1, x.misses(0, 25));
        due(-1, x.misses(0, -1));
        sentence("The HULL at c: the lowest of what straight lines between MISSES at two sizes, one c at most, the other one c at least, are at c, in thousandths, cut.");
        due(26000, x.hull(0, 0));
        due(25000, x.hull(0, 1));
        // From 25 at 1 to 24 at 24.
        due(24956, x.hull(0, 2));
        due(24043, x.hull(0, 23));
        due(24000, x.hull(0, 24));
        due(-1, x.hull(0, 25));
        due(-1, x.hull(0, -1));
    }

    private static void bends() {
        sentence("BENDS: sizes 0 and 24 (these alone, if all MISSES are alike), and those between at which MISSES are below each such line between two other sizes.");
        MissCurves x = Edges.reads(0, 1, 2, 3);
        due(2, x.bend(0, -1));
        due(0, x.bend(0, 0));
        due(24, x.bend(0, 1));
        // A fall of 1 from 0 to 1 and one from 1 to 2: 1 is on the line from 0 to 2, not below it.
        x.read(0, 3);
        x.read(0, 2);
        due(3, x.misses(0, 2));
        due(3, x.bend(0, -1));
        due(2, x.bend(0, 1));
        // One more at 1: it is below.
        x.read(0, 2);
        due(4, x.bend(0, -1));
        due(1, x.bend(0, 1));
        due(2, x.bend(0, 2));
        due(24, x.bend(0, 3));
        // Falls of 5, 1, 2 at the first three places: 2 is above the line from 1 to 3.
        MissCurves w = Edges.under("costs 5 if far=1;costs 1 if far=2;costs 2 if far=3");
        w.loop(0, 1, 3);
        w.read(0, 3);
        w.read(0, 2);
        w.read(0, 1);
        due(11, w.misses(0, 0));
        due(6, w.misses(0, 1));
        due(5, w.misses(0, 2));
        due(3, w.misses(0, 3));
        due(4, w.bend(0, -1));
        due(1, w.bend(0, 1));
        due(3, w.bend(0, 2));
        due(4500, w.hull(0, 2));
        // Far from 0: falls of 10 up to 5, then of 1 and of 3: 6 is above the line from 5 to 7.
        MissCurves far = Edges.under("costs 0;costs 10 if far>0 and far<6;costs 1 if far=6;costs 3 if far=7");
        far.loop(0, 0, 6);
        for (int place = 7; place >= 1; place--) {
            far.read(0, far.top(0, place));
        }
        due(54, far.misses(0, 0));
        due(4, far.misses(0, 5));
        due(3, far.misses(0, 6));
        due(0, far.misses(0, 7));
        int[] sizes = {0, 5, 7, 24};
        due(sizes.length, far.bend(0, -1));
        for (int i = 0; i < sizes.length; i++) {
            due(sizes[i], far.bend(0, i));
        }
        due(2000, far.hull(0, 6));
        // A fall at 24 alone: a straight line, 0 and 24.
        MissCurves y = new MissCurves();
        y.loop(1, 0, 23);
        y.read(1, 0);
        due(2, y.bend(1, -1));
        due(24, y.bend(1, 1));
    }

    private static void allBends() {
        sentence("those between at which MISSES are below each such line between two other sizes");
        // COSTS of place p are 25 - p, told by one read at each place: each size is a BEND.
        MissCurves x = Edges.under("costs 25-far if far>0;costs 0 if far=0");
        x.loop(0, 0, 23);
        for (int place = 24; place >= 1; place--) {
            due(place, x.read(0, x.top(0, place)));
        }
        due(25, x.bend(0, -1));
        for (int c = 0; c <= 24; c++) {
            due(c, x.bend(0, c));
            due(1000L * x.misses(0, c), x.hull(0, c));
        }
        due(-1, x.bend(0, 25));
        due(300, x.misses(0, 0));
        due(0, x.misses(0, 24));
        // With COSTS alike all sizes between are on one line.
        MissCurves y = new MissCurves();
        y.loop(0, 0, 23);
        for (int place = 24; place >= 1; place--) {
            y.read(0, y.top(0, place));
        }
        due(2, y.bend(0, -1));
    }

    private static void text(MissCurves x, int tenant, String want) {
        due(want.length(), x.report(tenant));
        for (int i = 0; i < want.length(); i++) {
            due(want.charAt(i), x.sign(i));
        }
        due(-1, x.sign(want.length()));
        due(-1, x.sign(-1));
    }

    private static void reports() {
        sentence("as a TEXT for each BEND, rising, the size, \":\", MISSES there (as digits), \",\" between two, \".\" behind the last one");
        text(new MissCurves(), 0, "0:0,24:0.");
        text(Edges.reads(3, 1), 3, "0:1,24:1.");
        text(Edges.reads(3, 1, 1), 3, "0:2,1:1,24:1.");
        MissCurves x = Edges.under("costs 99");
        for (int i = 0; i < 6; i++) {
            Edges.orders(x, "read 1 by 2 times 20");
        }
        text(x, 2, "0:11880,1:99,24:99.");
        MissCurves y = Edges.under("costs 25-far if far>0;costs 0 if far=0");
        y.loop(0, 0, 23);
        StringBuilder want = new StringBuilder();
        for (int place = 24; place >= 1; place--) {
            y.read(0, y.top(0, place));
        }
        for (int c = 0; c <= 24; c++) {
            want.append(c).append(':').append((24 - c) * (25 - c) / 2).append(c < 24 ? "," : ".");
        }
        text(y, 0, want.toString());
    }

    private static void guesses() {
        sentence("GUESS at c: PARTS of places beyond c and of what is farther together, by 1,000, cut (2,000,000,000 at most).");
        MissCurves x = limited(241, "costs 1");
        x.read(0, Edges.keyOf(0));
        due(11, x.guess(0, 0));
        due(11, x.guess(0, 23));
        due(7, x.guess(0, 24));
        due(-1, x.guess(0, 25));
        due(-1, x.guess(0, -1));
        // 7 times 1,000 and 3 times 1,333 PARTS come to 10,999, one more to 12,332.
        MissCurves z = limited(750, "costs 1");
        for (int i = 0; i < 3; i++) {
            z.read(0, Edges.keyOf(5));
        }
        due(10, z.guess(0, 0));
        z.read(0, Edges.keyOf(5));
        due(12, z.guess(0, 0));
        // 16,500,000 PARTS for each read: 693 thousand and 121,212 reads bring 2,000,000,000 at least. These take more calls than 512:
        // within them no GUESS comes so far.
        MissCurves y = limited(6, "costs 99");
        String many = "read 0 by 0 times 20;".repeat(11) + "read 0 by 0 times 20";
        for (int i = 0; i < 505; i++) {
            due(240, Edges.orders(y, many));
        }
        due(1999800693, y.guess(0, 24));
        Edges.orders(y, "read 0 by 0 times 12");
        due(1999998693, y.guess(0, 24));
        y.read(0, 0);
        due(2000000000, y.guess(0, 24));
        due(2000000000, y.guess(0, 0));
        y.read(0, 0);
        due(2000000000, y.guess(0, 24));
        // What is beyond is kept, not cut: halved it is as it would be.
        y.pass();
        due(1000015846, y.guess(0, 24));
    }

    private static void salted() {
        sentence("SALTED: with LIMIT T 1 .. 1,000, how many READS of the RECORD would be SAMPLED with all SALTS 0 .. 999 together.");
        MissCurves x = Edges.reads(0, 5, 5, 9);
        for (int limit : new int[] {1, 2, 500, 999, 1000}) {
            int want = 0;
            for (int salt = 0; salt <= 999; salt++) {
                for (int key : new int[] {5, 5, 9}) {
                    want += (617 * key + salt) % 1000 < limit ? 1 : 0;
                }
            }
            due(want, x.salted(0, limit));
        }
        due(-1, x.salted(0, 0));
        due(-1, x.salted(0, 1001));
        due(0, x.salted(1, 1000));
        x.loop(2, 0, 31);
        x.read(2, 0);
        due(32000, x.salted(2, 1000));
        due(32, x.salted(2, 1));
    }

    private static void shares() {
        sentence("SHARES of a size S 0 .. 48: one by one each goes to the TENANT the HULL of which falls most by one more");
        MissCurves x = Edges.reads(3, 1, 1);
        due(0, x.share(0, 3));
        due(1, x.share(1, 3));
        due(-1, x.share(-1, 3));
        due(-1, x.share(49, 3));
        // TENANT 1 falls by 3, then by 3 over 3 places, TENANT 2 by 2 over 3 places: 1, 1 1 1, 2 2 2.
        MissCurves falls = Edges.under("costs 3 if far>0");
        for (int k : new int[] {1, 2, 3, 4, 4, 1}) {
            falls.read(1, k);
        }
        Edges.law(falls, "costs 2 if far>0");
        falls.force(1);
        for (int k : new int[] {1, 2, 3, 1}) {
            falls.read(2, k);
        }
        due(4, falls.bend(1, -1));
        due(4, falls.bend(1, 2));
        int[][] dealt = {{0, 0, 0, 0}, {0, 1, 0, 0}, {0, 2, 0, 0}, {0, 3, 0, 0}, {0, 4, 0, 0}, {0, 4, 1, 0}, {0, 4, 2, 0}, {0, 4, 3, 0}, {1, 4, 3, 0}};
        for (int size = 0; size < dealt.length; size++) {
            for (int t = 0; t < 4; t++) {
                due(dealt[size][t], falls.share(size, t));
            }
        }
        // TENANT 1 falls by 5 and by 1, TENANT 2 by 3: 1, 2, 1.
        MissCurves other = Edges.under("costs 0;costs 5 if tenant=1 and far=1;costs 1 if tenant=1 and far=2;costs 3 if tenant=2 and far=1");
        for (int k : new int[] {1, 2, 2, 1}) {
            other.read(1, k);
        }
        other.read(2, 1);
        other.read(2, 1);
        int[][] gets = {{0, 0, 0}, {0, 1, 0}, {0, 1, 1}, {0, 2, 1}, {1, 2, 1}};
        for (int size = 0; size < gets.length; size++) {
            for (int t = 0; t < 3; t++) {
                due(gets[size][t], other.share(size, t));
            }
        }
        // TENANT 3 falls up to its 24th place.
        MissCurves last = new MissCurves();
        last.loop(3, 0, 23);
        last.read(3, 0);
        due(23, last.share(23, 3));
        due(24, last.share(24, 3));
        due(0, last.share(24, 0));
        due(24, last.share(25, 3));
        due(1, last.share(25, 0));
        sentence("24 at most for each; the lowest of alike ones");
        // 3 gets one first; all else is alike: 0 gets 24, then 1 does.
        due(24, x.share(25, 0));
        due(1, x.share(25, 3));
        due(0, x.share(25, 1));
        due(24, x.share(48, 0));
        due(23, x.share(48, 1));
        due(0, x.share(48, 2));
        due(1, x.share(48, 3));
        MissCurves y = new MissCurves();
        due(24, y.share(24, 0));
        due(0, y.share(24, 1));
        due(24, y.share(25, 0));
        due(1, y.share(25, 1));
        due(24, y.share(48, 1));
        due(0, y.share(48, 2));
        sentence("of exact HULLS, not cut");
        // HULLS that fall by 1 over 3 places and by 2 over 6 are alike though 3,666 and 3,667 are cut; 1 over 24 falls less than 1 over 23.
        MissCurves z = new MissCurves();
        z.loop(0, 0, 23);
        z.read(0, 0);
        z.loop(1, 0, 22);
        z.read(1, 0);
        due(0, z.share(1, 0));
        due(1, z.share(1, 1));
        due(0, z.share(23, 0));
        due(23, z.share(23, 1));
        due(1, z.share(24, 0));
        due(24, z.share(47, 0));
        due(1, z.share(48, 2) + z.share(48, 3) + z.share(48, 1) - 23);
        // 1 by 3 places: 5,000 4,666 4,333 4,000 cut fall by 334 333 333; the exact ones are alike: all three go to the lower one.
        MissCurves w = Edges.reads(0, 1, 2, 3, 1);
        for (int k : new int[] {1, 2, 3, 1}) {
            w.read(1, k);
        }
        due(3, w.share(3, 0));
        due(0, w.share(3, 1));
        due(3, w.share(5, 0));
        due(2, w.share(5, 1));
    }

    private static void best() {
        sentence("BEST shares of S: sizes 0 .. 24 for all TENANTS, S at most together, by which MISSES together are fewest; the first such as a row of sizes.");
        MissCurves x = new MissCurves();
        for (int t = 0; t < 4; t++) {
            x.loop(t, 0, 23);
            x.read(t, 0);
        }
        due(100, x.best(0, -1));
        due(100, x.best(23, -1));
        due(99, x.best(24, -1));
        due(99, x.best(47, -1));
        due(98, x.best(48, -1));
        int[][] want = {{0, 0, 0, 0, 23}, {0, 0, 0, 24, 24}, {0, 0, 0, 24, 47}, {0, 0, 24, 24, 48}};
        for (int[] row : want) {
            for (int t = 0; t < 4; t++) {
                due(row[t], x.best(row[4], t));
            }
        }
        due(-1, x.best(49, -1));
        due(-1, x.best(-1, -1));
        // TENANT 0 falls by 5, TENANT 3 by 2 and by 1: of two places each gets one.
        MissCurves y = Edges.under("costs 5 if tenant=0;costs 2 if tenant=3 and far=1");
        y.read(0, 1);
        y.read(0, 1);
        for (int k : new int[] {1, 2, 2, 1}) {
            y.read(3, k);
        }
        int[][] dealt = {{0, 0, 15}, {1, 0, 10}, {1, 1, 8}, {1, 2, 7}, {1, 2, 7}};
        for (int size = 0; size < dealt.length; size++) {
            due(dealt[size][0], y.best(size, 0));
            due(0, y.best(size, 1));
            due(0, y.best(size, 2));
            due(dealt[size][1], y.best(size, 3));
            due(dealt[size][2], y.best(size, -1));
        }
        due(0, new MissCurves().best(48, -1));
        due(0, new MissCurves().best(48, 3));
    }

    private static int replayed(String policy, int c, int... keys) {
        MissCurves x = Edges.reads(1, keys);
        Edges.policy(x, policy);
        return x.replay(1, c);
    }

    private static void replays() {
        sentence("a KEY that is not held is a miss and is held then (with 0 places none ever is: all are misses)");
        for (String name : new String[] {"lru", "mru", "fifo", "lfu", "min"}) {
            due(0, replayed(name, 0));
            due(0, replayed(name, 24));
            due(3, replayed(name, 0, 5, 5, 5));
            due(1, replayed(name, 1, 5, 5, 5));
            due(1, replayed(name, 24, 5, 5, 5));
            sentence("if there are c already, one leaves ahead");
            due(4, replayed(name, 1, 5, 6, 5, 6));
            due(2, replayed(name, 2, 5, 6, 5, 6));
            MissCurves x = new MissCurves();
            Edges.policy(x, name);
            x.loop(0, 0, 23);
            x.read(0, 0);
            due(24, x.replay(0, 24));
            due(25, x.replay(0, 0));
            due(-1, x.replay(0, 25));
            due(-1, x.replay(0, -1));
        }
        sentence("by lru that read longest ago");
        due(4, replayed("lru", 2, 1, 2, 1, 3, 1, 2));
        sentence("by mru that read latest");
        due(3, replayed("mru", 2, 1, 2, 1, 3, 2));
        due(4, replayed("mru", 2, 1, 2, 1, 3, 1));
        due(5, replayed("mru", 3, 1, 2, 3, 2, 4, 2));
        due(4, replayed("mru", 3, 1, 2, 3, 2, 4, 3));
        due(4, replayed("mru", 3, 1, 2, 3, 2, 4, 1));
        sentence("by fifo that held longest");
        due(4, replayed("fifo", 2, 1, 2, 1, 3, 1));
        due(3, replayed("fifo", 2, 1, 2, 1, 3, 2));
        sentence("by lfu that read least often since the RECORD's beginning (of alike ones that read longest ago)");
        due(4, replayed("lfu", 2, 1, 1, 2, 3, 1, 2));
        due(4, replayed("lfu", 2, 1, 2, 3, 1));
        due(3, replayed("lfu", 2, 1, 2, 3, 2));
        // 2 was read twice when 3 comes the second time, held or not: 1, read once and longest ago, leaves ahead of it.
        due(4, replayed("lfu", 2, 2, 1, 3, 2, 2));
        due(5, replayed("lfu", 2, 2, 1, 3, 2, 4, 2));
        // 2, read twice, leaves ahead of 1 and 3, read three times, though 3 was read longer ago.
        due(4, replayed("lfu", 3, 1, 1, 1, 2, 3, 3, 3, 2, 4, 3));
        due(5, replayed("lfu", 3, 1, 1, 1, 2, 3, 3, 3, 2, 4, 2));
        // 2, read once, leaves ahead of 3, read twice, and 1, read three times.
        due(4, replayed("lfu", 3, 1, 1, 1, 2, 3, 3, 4, 3));
        due(5, replayed("lfu", 3, 1, 1, 1, 2, 3, 3, 4, 2));
        sentence("by min that read again latest of all (one that is never again later than all others; of alike ones the lowest KEY)");
        due(4, replayed("min", 2, 1, 2, 3, 1, 2));
        due(3, replayed("min", 2, 1, 2, 3, 1, 3));
        due(3, replayed("min", 2, 1, 2, 3, 3, 1));
        due(3, replayed("min", 2, 1, 2, 3, 2));
        due(3, replayed("min", 2, 2, 1, 3, 1));
        // 1 is read again by the last READ of a full RECORD, 2 never again: 2 leaves, though 1 is lower.
        MissCurves full = Edges.reads(0, 1, 2);
        Edges.orders(full, "read 3 by 0 times 20;read 3 by 0 times 9;read 1 by 0");
        Edges.policy(full, "min");
        due(32, full.of(0, 3));
        due(3, full.replay(0, 2));
    }

    private static void replaysAgain() {
        sentence("the RECORD is read from its first, with nothing held");
        // One object asked again and again answers as new ones do: nothing stays of the RECORDS that were read before.
        int[][] records = {{1, 1, 1, 2, 3, 1, 2, 4}, {20, 21, 22, 20, 23, 21}, {}, {30, 31, 30, 32, 31, 33, 30, 34, 35, 30, 36, 31}};
        String[] names = {"lfu", "min", "fifo", "mru", "lru"};
        MissCurves x = new MissCurves();
        for (int t = 0; t < 4; t++) {
            for (int k : records[t]) {
                x.read(t, k);
            }
        }
        x.loop(2, 500, 531);
        for (String name : names) {
            Edges.policy(x, name);
            for (int c = 4; c >= 0; c--) {
                due(32, x.replay(2, c));
                for (int t = 0; t < 4; t++) {
                    if (t != 2) {
                        due(replayed(name, c, records[t]), x.replay(t, c));
                    }
                }
            }
        }
        due(records[0].length, x.replay(0, 0));
    }

    private static void lowestOfAlike() {
        sentence("of alike ones the lowest KEY");
        // Of KEYS that are never read again it can't be seen which one leaves, but that with more room no other one does.
        MissCurves x = Edges.reads(0, 9, 8, 7, 6, 5);
        Edges.policy(x, "min");
        due(5, x.replay(0, 2));
        due(-1, x.spilt(0));
        due(-1, x.odd(0));
    }

    private static void oddAndSpilt() {
        sentence("ODD: the least c 0 .. 23 at which with one more place there are more misses.");
        MissCurves x = Edges.reads(0, 1, 2, 3, 4, 1, 2, 5, 1, 2, 3, 4, 5);
        due(-1, x.odd(0));
        Edges.policy(x, "fifo");
        due(9, x.replay(0, 3));
        due(10, x.replay(0, 4));
        due(3, x.odd(0));
        due(-1, x.odd(1));
        // The farthest that 32 reads bring: with 9 places fewer misses than with 10.
        MissCurves y = new MissCurves();
        Edges.policy(y, "fifo");
        Edges.orders(y, "loop 1 to 10 by 0;loop 1 to 8 by 0;read 11 by 0;loop 1 to 8 by 0;loop 9 to 11 by 0");
        due(30, y.of(0, 3));
        due(1, y.replay(0, 10) - y.replay(0, 9));
        due(9, y.odd(0));
        sentence("SPILT: the first READ of the RECORD (0 its first) behind which for some c 1 .. 23 one held with c places is not held with one more.");
        Edges.policy(x, "fifo");
        due(6, x.spilt(0));
        due(-1, x.spilt(1));
        // With 2 places and with 3 alone: 0 2, then 0 3 are held with 2, with 3 places 0 1 2, then 1 2 3.
        MissCurves two = Edges.reads(0, 0, 1, 2, 0, 3);
        Edges.policy(two, "fifo");
        due(4, two.spilt(0));
        due(-1, two.odd(0));
        // The last READ of a full RECORD.
        MissCurves full = Edges.reads(0, 0, 1);
        Edges.orders(full, "read 1 by 0 times 20;read 1 by 0 times 7;read 2 by 0;read 0 by 0;read 3 by 0");
        Edges.policy(full, "fifo");
        due(32, full.of(0, 3));
        due(31, full.spilt(0));
        // With 23 places and with 24 alone: 0 is held with 23 places behind its second read, not with 24 when 24 comes.
        MissCurves z = new MissCurves();
        Edges.policy(z, "fifo");
        Edges.orders(z, "loop 0 to 23 by 0;read 0 by 0;read 24 by 0");
        due(26, z.of(0, 3));
        due(25, z.spilt(0));
        // One place more (24 and 25) is not asked for.
        MissCurves w = new MissCurves();
        Edges.policy(w, "fifo");
        Edges.orders(w, "loop 0 to 24 by 0;read 0 by 0;read 25 by 0");
        due(-1, w.spilt(0));
        Edges.policy(z, "lru");
        due(-1, z.spilt(0));
    }

    private static void whichOne() {
        sentence("IT CAN BE: TENANTS of which all that was SEEN is so.");
        MissCurves x = Edges.reads(0, 1, 1);
        x.read(1, 1);
        x.read(1, 2);
        due(15, x.canBe());
        x.seen(0, 2);
        due(3, x.canBe());
        x.seen(24, 2);
        due(2, x.canBe());
        // TENANT 0, which has as many at size 0, is none of these.
        due(0, x.ask(0));
        due(1, x.ask(1));
        x.seen(24, 1);
        due(0, x.canBe());
        sentence("the size 0 .. 24 at which of these the most that have alike MISSES are as few as can be; the lowest");
        due(-1, x.ask(0));
        x.forget();
        // MISSES at 0: 2 2 0 0, from 1 on: 1 2 0 0.
        due(0, x.ask(0));
        due(2, x.ask(1));
        x.seen(0, 2);
        due(1, x.ask(0));
        due(1, x.ask(1));
        // They differ at size 24 alone.
        MissCurves y = new MissCurves();
        for (int t = 0; t < 2; t++) {
            y.loop(t, 0, 23);
        }
        y.read(0, 0);
        y.read(1, 24);
        y.seen(0, 25);
        due(3, y.canBe());
        due(24, y.ask(0));
        due(1, y.ask(1));
        MissCurves turned = new MissCurves();
        for (int t = 0; t < 2; t++) {
            turned.loop(t, 0, 23);
        }
        turned.read(0, 24);
        turned.read(1, 0);
        turned.seen(0, 25);
        due(3, turned.canBe());
        due(24, turned.ask(0));
        due(1, turned.ask(1));
        // MISSES 5 3 2 and 5 3 3: they differ from size 2 on.
        MissCurves z = Edges.reads(0, 1, 2, 2, 2, 1);
        for (int k : new int[] {1, 2, 3, 3, 3}) {
            z.read(1, k);
        }
        z.seen(0, 5);
        due(3, z.canBe());
        due(2, z.ask(0));
        due(1, z.ask(1));
    }

    private static void few() {
        sentence("FEW: the chance, of 1,000,000,000,000 parts, that of n reads, each of which is lost in LOSSES of ten, fewer than k are");
        MissCurves x = new MissCurves();
        due(1000000000000L, x.few(1, 0));
        due(900000000000L, x.few(1, 1));
        due(1000000000000L, x.few(2, 1));
        x.terms(1, 10);
        due(1000000000000L, x.few(20, 19));
        due(0, x.few(20, 20));
        due(0, x.few(1, 1));
        due(1000000000000L, x.few(2, 1));
        x.terms(1, 0);
        due(1000000000000L, x.few(1, 99));
        sentence("each part times the rest by ten and times LOSSES by ten (one more), both cut; of those below k all together");
        // 0.3 to the 12th is 0.000000531441, of which 531,441 parts stay; then 159,432 and 47,829 (cut each time).
        x.terms(1, 7);
        due(531441, x.few(1, 12));
        due(159432, x.few(1, 13));
        due(47829, x.few(1, 14));
        x.terms(1, 9);
        due(1, x.few(1, 12));
        due(0, x.few(1, 13));
        // 1 part times 9 by ten is cut to 0, too.
        due(109, x.few(2, 12));
        due(10, x.few(2, 13));
    }

    private static void compared() {
        sentence("COMPARED: what a miss COSTS by a LAW in place of that in FORCE (NONE: none).");
        MissCurves x = Edges.under("costs 50");
        Edges.law(x, "costs far");
        x.read(0, 1);
        due(1, x.compare(-1, 0, 1));
        due(50, x.compare(0, 0, 1));
        due(1, x.compare(1, 0, 1));
        due(0, x.compare(1, 0, 2));
        due(-1, x.compare(2, 0, 1));
        due(-1, x.compare(-2, 0, 1));
        due(50, x.key(0, 1, 3));
    }

    // IV.

    /** What MONTHS would do, done: how many READS were COLD or BARRED. */
    private static int lived(MissCurves x, int seed, int n) {
        long s = seed;
        int cold = 0;
        for (int i = 0; i < n && x.count(11) < 999; i++) {
            int[] draws = new int[3];
            int[] of = {4, 20, 8};
            for (int d = 0; d < 3; d++) {
                s = (s * 1103 + 12345) % 1000003;
                draws[d] = (int) (s % of[d]);
            }
            if (draws[2] <= 5) {
                cold += x.read(draws[0], draws[1]) == 0 ? 1 : 0;
            } else if (draws[2] == 6) {
                x.drop(draws[0], draws[1]);
            } else {
                x.pass();
            }
        }
        return cold;
    }

    private static void monthsAlike(Edges.Setup setup, int seed, int n) {
        MissCurves drawn = new MissCurves();
        MissCurves lived = new MissCurves();
        setup.on(drawn);
        setup.on(lived);
        due(lived(lived, seed, n), drawn.months(seed, n));
        due(0, drawn.status());
        for (int t = 0; t < 4; t++) {
            for (int c = 0; c <= 24; c++) {
                due(lived.misses(t, c), drawn.drawn(t, c));
            }
        }
    }

    private static void months() {
        sentence("MONTHS with a SEED, n 1 .. 60, on paper: s is the SEED (0 .. 1,000,000)");
        for (int[] one : new int[][] {{0, 1}, {0, 60}, {1000000, 1}, {1000000, 60}, {999999, 59}, {1, 2}}) {
            monthsAlike(Edges.NOTHING, one[0], one[1]);
            monthsAlike(Edges::rich, one[0], one[1]);
        }
        for (int[] one : new int[][] {{0, 0}, {0, 61}, {-1, 1}, {1000001, 60}, {0, -1}, {Integer.MIN_VALUE, 1}, {1, Integer.MAX_VALUE}}) {
            edges.refused(-1, Edges::rich, x -> x.months(one[0], one[1]));
        }
        sentence("a DRAW of m: s becomes (s times 1103 and 12345) modulo 1,000,003, it is s modulo m");
        // 0: 12,345, 628,841, 621,889: TENANT 1 READS KEY 1. It goes over 1,000,003 at once from 1,000,000 on.
        MissCurves x = new MissCurves();
        due(1, x.months(0, 1));
        due(1, x.drawn(1, 0));
        due(0, x.drawn(0, 0) + x.drawn(2, 0) + x.drawn(3, 0));
        for (int seed = 0; seed < 1000000; seed += 49999) {
            monthsAlike(Edges.NOTHING, seed, 60);
        }
    }

    private static void monthsEnd() {
        sentence("Each time (at TIME 999 it ends) DRAWS of 4, of 20, of 8, whatever comes of them");
        for (int time : new int[] {990, 995, 997, 998, 999}) {
            for (int seed = 0; seed < 12; seed++) {
                monthsAlike(x -> {
                    x.loop(0, 0, 9);
                    x.terms(0, time);
                }, seed, 60);
            }
        }
        MissCurves x = Edges.reads(2, 4);
        x.terms(0, 999);
        due(0, x.months(0, 60));
        due(1, x.drawn(2, 24));
        due(0, x.drawn(1, 0));
        sentence("at 6 it DROPS it, if it is in its STACK");
        // A seed of which the first month is a DROP: with the KEY there the next read of it is COLD.
        for (int seed = 0; seed < 200; seed++) {
            monthsAlike(Edges.NOTHING, seed, 1);
            int tenant = seed % 4;
            monthsAlike(y -> y.loop(tenant, 0, 19), seed, 12);
        }
    }

    private static void rows() {
        sentence("A ROW: the TAPE's bytes by twos: a TENANT, a KEY: a READ (one of a BARRED KEY, too)");
        MissCurves x = Edges.under("bars if key=255");
        Edges.tell(x, "\u0000\u0000\u0003\u00fe\u0003\u00ff");
        due(3, x.row());
        due(0, x.blanks());
        due(0, x.top(0, 1));
        due(254, x.top(3, 1));
        due(1, x.of(3, 0));
        due(2, x.of(3, 4));
        sentence("one that can't be, one within which the TAPE ends is a BLANK: nothing");
        Edges.tell(x, "\u0004\u0000\u00ff\u0001\u0002\u0005\u0002");
        due(1, x.row());
        due(3, x.blanks());
        due(5, x.top(2, 1));
        due(1, x.of(2, 0));
        due(1, x.of(0, 0));
        Edges.tell(x, "\u0001");
        due(0, x.row());
        due(1, x.blanks());
        due(0, x.of(1, 0));
        // A TAPE that is full.
        Edges.tell(x, "\u0001\u0001".repeat(200));
        due(200, x.row());
        due(0, x.blanks());
        due(199, x.of(1, 5));
        due(32, x.of(1, 3));
        Edges.tell(x, "\u0004\u0001".repeat(200));
        due(0, x.row());
        due(200, x.blanks());
    }

    private static void images() {
        sentence("IMAGES 0, 1 keep all but the TAPE, FAULT, BLANKS, the REPORT, where ORDERS stopped, what can be undone (nothing, behind back()), the latest MONTHS");
        for (int k = 0; k < 2; k++) {
            MissCurves x = new MissCurves();
            Edges.rich(x);
            x.image(k);
            due(5, x.count(3));
            Edges.law(x, "costs");
            Edges.orders(x, "pass;pass;read 1 by 4");
            due(2, x.stopped());
            x.months(3, 30);
            x.report(1);
            int drawn = x.drawn(1, 0);
            int sign = x.sign(2);
            Edges.tell(x, "\u0004\u0000\u0004\u0000\u0004");
            x.row();
            x.read(0, 77);
            Edges.law(x, "costs 1 1");
            Edges.tell(x, "bars");
            due(0, x.back(k));
            due(4, x.count(4));
            due(8, x.fault());
            due(3, x.blanks());
            due(2, x.stopped());
            due(0, x.count(3));
            due(-3, x.undo());
            due(drawn, x.drawn(1, 0));
            due(sign, x.sign(2));
            due(2, x.law());
        }
        sentence("BACK to one all that it keeps is as it was then (IMAGES stay)");
        for (int k = 0; k < 2; k++) {
            int one = k;
            Map<String, Long> want = Edges.look(x -> {
                Edges.rich(x);
                Edges.policy(x, "lfu");
                x.terms(0, 5);
                x.end(0);
                x.image(one);
            });
            Map<String, Long> got = Edges.look(x -> {
                Edges.rich(x);
                x.terms(0, 5);
                x.image(one);
                changeAll(x);
                x.image(1 - one);
                x.back(one);
                x.image(1 - one);
                if (one == 1) {
                    x.back(0);
                }
            });
            for (Map.Entry<String, Long> e : want.entrySet()) {
                if (!e.getKey().matches("drawn.*|sign.*|count\\([5-9]\\)|back\\(" + (1 - k) + "\\).*|row\\(\\), blanks.*|blanks.*|stopped.*")) {
                    due(e.getValue(), got.get(e.getKey()));
                }
            }
        }
    }

    /** Changes all that IMAGES keep; the TAPE is empty then, and there is no FAULT. */
    private static void changeAll(MissCurves x) {
        Edges.tell(x, "\u0004\u0000\u0001\u0063");
        x.row();
        x.force(1);
        for (int t = 0; t < 4; t++) {
            x.loop(t, 600, 631);
            x.loop(t, 0, 9);
            x.read(t, 0);
        }
        x.pass();
        x.forget();
        for (int i = 0; i < 6; i++) {
            x.seen(i, 4);
        }
        for (int what = 0; what < 4; what++) {
            x.terms(what, 2);
        }
        x.read(0, 3);
        x.months(9, 9);
        x.report(1);
        Edges.orders(x, "read 4 by 9");
        for (int i = 2; i < 6; i++) {
            Edges.law(x, "costs 9");
        }
        Edges.policy(x, "min");
    }

    private static void allIsKept() {
        sentence("BACK to one all that it keeps is as it was then");
        // PARTS and COSTS of place 24, the last KEY of a full SAMPLE: by IMAGES, by what is undone, by ORDERS that can't be.
        for (int way = 0; way < 3; way++) {
            MissCurves x = limited(241, "costs 1");
            x.image(0);
            if (way == 0) {
                change(x);
                x.back(0);
            } else if (way == 1) {
                x.read(0, Edges.keyOf(0));
                x.loop(0, 0, 9);
                x.undo();
                x.undo();
            } else {
                Edges.orders(x, "read " + Edges.keyOf(0) + " by 0;loop 0 to 9 by 0;read 1 by 9");
            }
            due(7, x.guess(0, 0));
            due(7, x.guess(0, 24));
            for (int hash = 0; hash < 6; hash++) {
                due(6 - hash, x.key(0, Edges.keyOf(hash), 1));
            }
            due(241, x.of(0, 2));
            due(7, x.of(0, 0));
        }
    }

    private static void lawsAreKept() {
        sentence("IMAGES 0, 1 keep all but the TAPE");
        MissCurves x = new MissCurves();
        x.image(1);
        for (int i = 0; i < 6; i++) {
            Edges.law(x, "costs " + (10 + i));
        }
        x.force(5);
        x.image(0);
        x.back(1);
        due(0, x.count(2));
        due(-1, x.count(10));
        for (int i = 0; i < 6; i++) {
            due(i, Edges.law(x, "costs " + (50 + i)));
            due(50 + i, x.compare(i, 0, 0));
        }
        x.force(0);
        x.back(0);
        due(6, x.count(2));
        due(5, x.count(10));
        due(15, x.key(0, 0, 3));
        for (int i = 0; i < 6; i++) {
            due(10 + i, x.compare(i, 0, 0));
        }
    }

    private static void seenIsKept() {
        sentence("IMAGES 0, 1 keep all but the TAPE");
        // Each of the six that were SEEN alone tells that it is TENANT 0: 2 1 1 .. are its MISSES, 2 2 2 .. those of TENANT 1.
        for (int one = 0; one < 6; one++) {
            MissCurves x = Edges.reads(0, 1, 1);
            x.read(1, 1);
            x.read(1, 2);
            for (int i = 0; i < 6; i++) {
                due(i + 1, i == one ? x.seen(24, 1) : x.seen(0, 2));
            }
            due(1, x.canBe());
            x.image(one % 2);
            due(6, x.forget());
            x.image(1 - one % 2);
            for (int i = 0; i < 6; i++) {
                x.seen(1, 77);
            }
            due(0, x.canBe());
            x.back(1 - one % 2);
            due(0, x.count(1));
            due(15, x.canBe());
            x.seen(1, 77);
            x.back(one % 2);
            due(6, x.count(1));
            due(1, x.canBe());
        }
    }

    private static void change(MissCurves x) {
        x.read(0, Edges.keyOf(0));
        x.loop(0, 0, 9);
    }

    public static void main(String[] args) {
        tenantsAndKeys();
        stack();
        costs();
        sample();
        record();
        policies();
        seen();
        termRanges();
        saltTold();
        bits();
        firstRefusal();
        coldOrBarred();
        hashes();
        belowLimit();
        saltedSample();
        samplePlaces();
        partsOfCost();
        limitFalls();
        loops();
        drops();
        times();
        misses();
        bends();
        allBends();
        reports();
        guesses();
        salted();
        shares();
        best();
        replays();
        replaysAgain();
        lowestOfAlike();
        oddAndSpilt();
        whichOne();
        few();
        compared();
        months();
        monthsEnd();
        rows();
        images();
        allIsKept();
        lawsAreKept();
        seenIsKept();
        System.exit(edges.end("Terms I, III, IV"));
    }
}
