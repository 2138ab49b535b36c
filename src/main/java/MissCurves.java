import java.util.Arrays;

/**
 * A workshop of miss curves. Words in capitals are those of the document's section 'Terms'.
 * All rows are made in constructors and used again, since what a run makes is counted.
 */
public final class MissCurves {
    public static final int NONE = -1;

    private static final int TENANTS = 4;
    private static final int KEYS = 1000;
    private static final int PLACES = 24;
    private static final int SAMPLE_SIZE = 6;
    private static final int RECORD_SIZE = 32;
    private static final int HASHES = 1000;
    private static final int LAST_TIME = 999;
    private static final int LONGEST_LOOP = 32;
    private static final int MOST_LAWS = 6;
    private static final int MOST_SEEN = 6;
    private static final int MOST_UNDONE = 16;
    private static final int MOST_SHARED = 48;
    private static final int IMAGES = 2;
    private static final int TAPE_SIZE = 400;
    private static final int FED = 5;

    private static final int CLAUSES = 12;
    private static final int MOST_PARTS = 50;
    private static final int MOST_BRACKETS = 8;
    private static final int MOST_TIMES = 20;
    private static final int MOST_NUMBER = 1000;
    /** Two elements for each of at most 400 TOKENS, and for each STOP. */
    private static final int CODE_SIZE = 1024;

    private static final int BAD_NUMBER = -1;
    private static final int NOT_THERE = -2;
    private static final int CANNOT_BE = -3;
    private static final int NO_ROOM = -5;
    private static final int BAD_TEXT = -6;

    private static final int LRU = 0;
    private static final int MRU = 1;
    private static final int FIFO = 2;
    private static final int LFU = 3;
    private static final int MIN = 4;

    /** Kinds of CLAUSES: the first four are what undo() tells, too. */
    private static final int READ = 0;
    private static final int LOOP = 1;
    private static final int DROP = 2;
    private static final int PASS = 3;
    private static final int COSTS = 4;
    private static final int BARS = 5;

    /** Kinds of TOKENS. */
    private static final int END = 0;
    private static final int LETTERS = 1;
    private static final int DIGITS = 2;
    private static final int SIGN = 3;

    /** What compiled TEXTS do, one behind the other, on a stack of numbers. */
    private static final int STOP = 0;
    private static final int NUMBER = 1;
    private static final int WORD = 2;
    private static final int NOT = 3;
    private static final int OR = 4;
    private static final int AND = 5;

    /** Places in the row of words of the two languages. */
    private static final int LAW_TENANT = 0;
    private static final int LAW_KEY = 1;
    private static final int LAW_READS = 2;
    private static final int LAW_FAR = 3;
    private static final int LAW_TIME = 4;
    private static final int LAW_MOOD = 5;
    private static final int LAW_WORDS = 6;
    private static final int ORDER_TIME = 0;
    private static final int ORDER_DONE = 1;
    private static final int ORDER_LATEST = 2;
    private static final int ORDER_COLD = 3;
    private static final int ORDER_DEEP = 7;
    private static final int ORDER_WORDS = 11;

    private static final long BEYOND = 1000000000L;
    /** No SUM can be this. */
    private static final long BROKEN = -2 * BEYOND;
    private static final long MOST_GUESSED = 2000000000L;
    private static final long WHOLE_CHANCE = 1000000000000L;
    private static final int MOST_FEW = 20;

    private final Shop shop = new Shop();
    private final Trail trail = new Trail();
    /** What ORDERS do is kept apart until all of them were run. */
    private final Trail fresh = new Trail();
    private final World ahead = new World();
    private final World paper = new World();
    private boolean drawnYet = false;
    private final Shop[] images = new Shop[IMAGES];
    private final boolean[] kept = new boolean[IMAGES];
    private final int[] tape = new int[TAPE_SIZE];
    private int tapeLength = 0;
    private final Parser parser = new Parser();
    private final Judge judge = new Judge();
    private final Replayer replayer = new Replayer();
    private final Curve curve = new Curve();
    private final Dealer dealer = new Dealer();
    private int blankCount = 0;
    private int stoppedClause = NONE;
    private int statusCode = 0;
    private final int[] refusals = new int[1 - BAD_TEXT];

    public MissCurves() {
        for (int k = 0; k < IMAGES; k++) {
            images[k] = new Shop();
        }
    }

    // What stands.

    public int of(int tenant, int what) {
        if (!isTenant(tenant)) {
            return NONE;
        }
        Tenant one = shop.world.tenants[tenant];
        switch (what) {
            case 0:
                return one.stackSize;
            case 1:
                return one.sampleSize;
            case 2:
                return one.limit;
            case 3:
                return one.recordSize;
            default:
                return what >= 4 && what <= 4 + PLACES ? one.costs[what - 4] : NONE;
        }
    }

    public int top(int tenant, int place) {
        if (!isTenant(tenant)) {
            return NONE;
        }
        Tenant one = shop.world.tenants[tenant];
        return place >= 1 && place <= one.stackSize ? one.stack[place - 1] : NONE;
    }

    public int key(int tenant, int key, int what) {
        if (!isTenant(tenant) || !isKey(key)) {
            return NONE;
        }
        Tenant one = shop.world.tenants[tenant];
        switch (what) {
            case 0:
                return placeIn(one.stack, one.stackSize, key);
            case 1:
                return placeIn(one.sample, one.sampleSize, key);
            case 2:
                return hashOf(key, shop.salt);
            case 3:
                judge.weigh(shop, shop.lawOf(shop.inForce), shop.world, tenant, key);
                return judge.cost;
            case 4:
                judge.weigh(shop, shop.lawOf(shop.inForce), shop.world, tenant, key);
                return judge.barred ? 1 : 0;
            default:
                return NONE;
        }
    }

    public int terms(int what, int value) {
        if (value < 0 || value > mostOfTerm(what)) {
            return refuse(BAD_NUMBER);
        }
        int was = shop.term(what);
        shop.setTerm(what, value);
        trail.clear();
        return accept(was);
    }

    public int count(int what) {
        switch (what) {
            case 0:
                return shop.chosenPolicy;
            case 1:
                return shop.seenCount;
            case 2:
                return shop.lawCount;
            case 3:
                return trail.size;
            case 4:
                return tapeLength;
            case 5:
                return refusals[-BAD_NUMBER];
            case 6:
                return refusals[-NOT_THERE];
            case 7:
                return refusals[-CANNOT_BE];
            case 8:
                return refusals[-NO_ROOM];
            case 9:
                return refusals[-BAD_TEXT];
            case 10:
                return shop.inForce;
            default:
                return what >= 11 && what <= 14 ? shop.term(what - 11) : NONE;
        }
    }

    public int status() {
        return statusCode;
    }

    // The TAPE and its TEXTS.

    public int feed(int a, int b, int c, int d, int e) {
        if (tapeLength + 4 * FED > TAPE_SIZE) {
            return NONE;
        }
        putOnTape(a);
        putOnTape(b);
        putOnTape(c);
        putOnTape(d);
        putOnTape(e);
        return tapeLength;
    }

    public int end(int n) {
        if (n < 0 || n > tapeLength) {
            return NONE;
        }
        tapeLength = n;
        return n;
    }

    public int row() {
        if (tapeLength == 0) {
            return refuse(BAD_TEXT);
        }
        int reads = 0;
        blankCount = 0;
        for (int i = 0; i < tapeLength; i += 2) {
            if (i + 1 < tapeLength && isTenant(tape[i]) && isKey(tape[i + 1])) {
                readKey(shop.world, tape[i], tape[i + 1]);
                reads++;
            } else {
                blankCount++;
            }
        }
        tapeLength = 0;
        trail.clear();
        return accept(reads);
    }

    public int blanks() {
        return blankCount;
    }

    public int policy() {
        int named = parser.namedPolicy(tape, tapeLength);
        tapeLength = 0;
        if (named == NONE) {
            return refuse(BAD_TEXT);
        }
        shop.chosenPolicy = named;
        return accept(named);
    }

    public int law() {
        int length = tapeLength;
        tapeLength = 0;
        if (shop.lawCount >= MOST_LAWS) {
            return refuse(NO_ROOM);
        }
        if (!parser.compile(tape, length, false)) {
            return refuse(BAD_TEXT);
        }
        shop.laws[shop.lawCount] = parser.program.trimmed();
        shop.lawCount++;
        return accept(shop.lawCount - 1);
    }

    public int orders() {
        int length = tapeLength;
        tapeLength = 0;
        stoppedClause = NONE;
        if (!parser.compile(tape, length, true)) {
            return refuse(BAD_TEXT);
        }
        ahead.copyFrom(shop.world);
        fresh.clear();
        int done = 0;
        int latest = NONE;
        for (int n = 0; n < parser.program.clauses; n++) {
            for (int again = 0; again < parser.program.times[n]; again++) {
                setOrderWords(done, latest);
                if (!isWanted(parser.program, n)) {
                    continue;
                }
                int told = runClause(parser.program, n);
                if (told < 0) {
                    shop.world.copyFrom(ahead);
                    stoppedClause = n;
                    return refuse(CANNOT_BE);
                }
                done++;
                latest = parser.program.kinds[n] <= LOOP ? told : latest;
            }
        }
        trail.take(fresh);
        return accept(done);
    }

    public int fault() {
        return parser.faultAt;
    }

    public int stopped() {
        return stoppedClause;
    }

    public int force(int law) {
        if (!isLawOrNone(law)) {
            return refuse(NOT_THERE);
        }
        int was = shop.inForce;
        shop.inForce = law;
        return accept(was);
    }

    // What is done, and undone.

    public int read(int tenant, int key) {
        return settle(act(trail, READ, tenant, key, key));
    }

    public int loop(int tenant, int from, int to) {
        return settle(act(trail, LOOP, tenant, from, to));
    }

    public int drop(int tenant, int key) {
        return settle(act(trail, DROP, tenant, key, key));
    }

    public int pass() {
        return settle(act(trail, PASS, 0, 0, 0));
    }

    public int undo() {
        int kind = trail.popInto(shop.world);
        return kind == NONE ? refuse(CANNOT_BE) : accept(kind);
    }

    // Curves.

    public int misses(int tenant, int c) {
        return isTenant(tenant) && isSize(c) ? shop.world.tenants[tenant].missesAt(c) : NONE;
    }

    public long hull(int tenant, int c) {
        if (!isTenant(tenant) || !isSize(c)) {
            return NONE;
        }
        curve.load(shop.world.tenants[tenant]);
        return curve.hullAt(c);
    }

    public int bend(int tenant, int i) {
        if (!isTenant(tenant)) {
            return NONE;
        }
        curve.load(shop.world.tenants[tenant]);
        if (i == NONE) {
            return curve.bendCount;
        }
        return i >= 0 && i < curve.bendCount ? curve.bends[i] : NONE;
    }

    public int report(int tenant) {
        if (!isTenant(tenant)) {
            return NONE;
        }
        curve.load(shop.world.tenants[tenant]);
        return curve.writeReport();
    }

    public int sign(int i) {
        return i >= 0 && i < curve.signs.length() ? curve.signs.charAt(i) : NONE;
    }

    public int guess(int tenant, int c) {
        return isTenant(tenant) && isSize(c) ? shop.world.tenants[tenant].guessAt(c) : NONE;
    }

    public int salted(int tenant, int limit) {
        if (!isTenant(tenant) || limit < 1 || limit > HASHES) {
            return NONE;
        }
        // Over all SALTS each KEY has each HASH once, so each READ is SAMPLED with LIMIT of them.
        return shop.world.tenants[tenant].recordSize * limit;
    }

    public int share(int size, int tenant) {
        if (!isTenant(tenant) || size < 0 || size > MOST_SHARED) {
            return NONE;
        }
        for (int t = 0; t < TENANTS; t++) {
            curve.load(shop.world.tenants[t]);
            dealer.loadFalls(t, curve);
        }
        dealer.dealByFalls(size);
        return dealer.dealt[tenant];
    }

    public int best(int size, int tenant) {
        if (tenant != NONE && !isTenant(tenant) || size < 0 || size > MOST_SHARED) {
            return NONE;
        }
        for (int t = 0; t < TENANTS; t++) {
            dealer.loadMisses(t, shop.world.tenants[t]);
        }
        int fewest = dealer.dealBest(size);
        return tenant == NONE ? fewest : dealer.dealt[tenant];
    }

    // The RECORD read again.

    public int replay(int tenant, int c) {
        if (!isTenant(tenant) || !isSize(c)) {
            return NONE;
        }
        replayer.load(shop.world.tenants[tenant]);
        return replayer.play(shop.chosenPolicy, c);
    }

    public int odd(int tenant) {
        if (!isTenant(tenant)) {
            return NONE;
        }
        replayer.load(shop.world.tenants[tenant]);
        int smaller = replayer.play(shop.chosenPolicy, 0);
        // With a place for each different KEY none ever leaves: more room changes nothing.
        for (int c = 0; c < PLACES && c < replayer.different; c++) {
            int larger = replayer.play(shop.chosenPolicy, c + 1);
            if (larger > smaller) {
                return c;
            }
            smaller = larger;
        }
        return NONE;
    }

    public int spilt(int tenant) {
        if (!isTenant(tenant)) {
            return NONE;
        }
        replayer.load(shop.world.tenants[tenant]);
        return replayer.firstSpilt(shop.chosenPolicy);
    }

    // Which TENANT it is.

    public int seen(int c, int n) {
        if (!isSize(c) || n < 0 || n > 99999) {
            return refuse(BAD_NUMBER);
        }
        if (shop.seenCount >= MOST_SEEN) {
            return refuse(NO_ROOM);
        }
        shop.seenSizes[shop.seenCount] = c;
        shop.seenMisses[shop.seenCount] = n;
        shop.seenCount++;
        return accept(shop.seenCount);
    }

    public int forget() {
        int was = shop.seenCount;
        shop.seenCount = 0;
        return was;
    }

    public int canBe() {
        int those = 0;
        for (int t = 0; t < TENANTS; t++) {
            if (shop.fits(shop.world.tenants[t])) {
                those |= 1 << t;
            }
        }
        return those;
    }

    public int ask(int what) {
        int those = canBe();
        if (those == 0 || what < 0 || what > 1) {
            return NONE;
        }
        int size = 0;
        int fewest = TENANTS + 1;
        for (int c = 0; c <= PLACES; c++) {
            int alike = shop.world.mostAlike(those, c);
            if (alike < fewest) {
                fewest = alike;
                size = c;
            }
        }
        return what == 0 ? size : fewest;
    }

    public long few(int k, int n) {
        if (k < 1 || k > MOST_FEW || n < 0 || n > 99) {
            return NONE;
        }
        long[] chances = new long[MOST_FEW];
        chances[0] = WHOLE_CHANCE;
        for (int i = 0; i < n; i++) {
            for (int lost = k - 1; lost >= 0; lost--) {
                long one = lost > 0 ? chances[lost - 1] * shop.losses / 10 : 0;
                chances[lost] = chances[lost] * (10 - shop.losses) / 10 + one;
            }
        }
        long together = 0;
        for (int lost = 0; lost < k; lost++) {
            together += chances[lost];
        }
        return together;
    }

    public int compare(int law, int tenant, int key) {
        if (!isLawOrNone(law) || !isTenant(tenant) || !isKey(key)) {
            return NONE;
        }
        judge.weigh(shop, shop.lawOf(law), shop.world, tenant, key);
        return judge.cost;
    }

    // MONTHS and IMAGES.

    public int months(int seed, int n) {
        if (seed < 0 || seed > 1000000 || n < 1 || n > 60) {
            return refuse(BAD_NUMBER);
        }
        paper.copyFrom(shop.world);
        drawnYet = true;
        int cold = 0;
        long s = seed;
        for (int i = 0; i < n && paper.time < LAST_TIME; i++) {
            s = nextDraw(s);
            int tenant = (int) (s % TENANTS);
            s = nextDraw(s);
            int key = (int) (s % 20);
            s = nextDraw(s);
            int what = (int) (s % 8);
            if (what <= 5) {
                cold += readKey(paper, tenant, key) == 0 ? 1 : 0;
            } else if (what == 6) {
                paper.tenants[tenant].removeKey(key);
            } else {
                paper.passTime();
            }
        }
        return accept(cold);
    }

    public int drawn(int tenant, int c) {
        return drawnYet && isTenant(tenant) && isSize(c) ? paper.tenants[tenant].missesAt(c) : NONE;
    }

    public int image(int k) {
        if (k < 0 || k >= IMAGES) {
            return refuse(BAD_NUMBER);
        }
        images[k].copyFrom(shop);
        kept[k] = true;
        return accept(0);
    }

    public int back(int k) {
        if (k < 0 || k >= IMAGES) {
            return refuse(BAD_NUMBER);
        }
        if (!kept[k]) {
            return refuse(NOT_THERE);
        }
        shop.copyFrom(images[k]);
        trail.clear();
        return accept(0);
    }

    // Helpers of the face.

    private int refuse(int code) {
        statusCode = code;
        if (code < 0 && code >= BAD_TEXT) {
            refusals[-code]++;
        }
        return code;
    }

    private int accept(int answer) {
        statusCode = 0;
        return answer;
    }

    /** Only for calls whose answers are below 0 just when they are REFUSED. */
    private int settle(int answer) {
        return answer < 0 ? refuse(answer) : accept(answer);
    }

    private static boolean isTenant(int tenant) {
        return tenant >= 0 && tenant < TENANTS;
    }

    private static boolean isKey(int key) {
        return key >= 0 && key < KEYS;
    }

    private static boolean isSize(int c) {
        return c >= 0 && c <= PLACES;
    }

    private boolean isLawOrNone(int law) {
        return law >= NONE && law < shop.lawCount;
    }

    private static int mostOfTerm(int what) {
        switch (what) {
            case 0:
            case 3:
                return 999;
            case 1:
                return 10;
            case 2:
                return 9;
            default:
                return NONE;
        }
    }

    private void putOnTape(int four) {
        for (int shift = 24; shift >= 0; shift -= 8) {
            tape[tapeLength] = four >>> shift & 255;
            tapeLength++;
        }
    }

    private static long nextDraw(long s) {
        return (s * 1103 + 12345) % 1000003;
    }

    private static int hashOf(int key, int salt) {
        return (617 * key + salt) % HASHES;
    }

    /** The place (1 the first) of a key in a row, 0 if it is not there. */
    private static int placeIn(int[] row, int size, int key) {
        for (int i = 0; i < size; i++) {
            if (row[i] == key) {
                return i + 1;
            }
        }
        return 0;
    }

    /** A key comes first in a row; those ahead of the hole go one place on, what was in it is gone. */
    private static void putFirst(int[] row, int hole, int key) {
        System.arraycopy(row, 0, row, 1, hole);
        row[0] = key;
    }

    private int act(Trail onto, int kind, int tenant, int from, int to) {
        int refusal = refusalOf(kind, tenant, from, to);
        if (refusal < 0) {
            return refusal;
        }
        onto.push(kind, shop.world);
        switch (kind) {
            case READ:
                return readKey(shop.world, tenant, from);
            case LOOP:
                return readKeys(tenant, from, to);
            case DROP:
                return shop.world.tenants[tenant].removeKey(from);
            default:
                return shop.world.passTime();
        }
    }

    private int refusalOf(int kind, int tenant, int from, int to) {
        if (kind == PASS) {
            return shop.world.time >= LAST_TIME ? CANNOT_BE : 0;
        }
        if (!isTenant(tenant) || !isKey(from) || !isKey(to)) {
            return BAD_NUMBER;
        }
        if (kind == LOOP && (to < from || to - from >= LONGEST_LOOP)) {
            return BAD_NUMBER;
        }
        Tenant one = shop.world.tenants[tenant];
        return kind == DROP && placeIn(one.stack, one.stackSize, from) == 0 ? CANNOT_BE : 0;
    }

    private int readKeys(int tenant, int from, int to) {
        int cold = 0;
        for (int key = from; key <= to; key++) {
            cold += readKey(shop.world, tenant, key) == 0 ? 1 : 0;
        }
        return cold;
    }

    /** To READ: the place at which the KEY was, 0 if it was COLD or BARRED. */
    private int readKey(World world, int tenant, int key) {
        judge.weigh(shop, shop.lawOf(shop.inForce), world, tenant, key);
        Tenant one = world.tenants[tenant];
        int cost = judge.cost;
        if (judge.barred) {
            one.costs[0] += cost;
            return 0;
        }
        int place = one.putOnTop(key, cost);
        one.noteRead(key);
        one.takeSample(key, cost, shop.salt);
        return place;
    }

    private void setOrderWords(int done, int latest) {
        int[] words = judge.orderWords;
        words[ORDER_TIME] = shop.world.time;
        words[ORDER_DONE] = done;
        words[ORDER_LATEST] = latest;
        for (int t = 0; t < TENANTS; t++) {
            words[ORDER_COLD + t] = shop.world.tenants[t].costs[0];
            words[ORDER_DEEP + t] = shop.world.tenants[t].stackSize;
        }
    }

    private boolean isWanted(Program program, int n) {
        return program.tests[n] == NONE || judge.evaluate(program, program.tests[n], judge.orderWords) == 1;
    }

    /** What the CLAUSE told, below 0 if it can't be. */
    private int runClause(Program program, int n) {
        int kind = program.kinds[n];
        if (kind == PASS) {
            return act(fresh, PASS, 0, 0, 0);
        }
        long from = judge.evaluate(program, program.from[n], judge.orderWords);
        long to = kind == LOOP ? judge.evaluate(program, program.to[n], judge.orderWords) : from;
        long tenant = judge.evaluate(program, program.by[n], judge.orderWords);
        if (from == BROKEN || to == BROKEN || tenant == BROKEN) {
            return CANNOT_BE;
        }
        return act(fresh, kind, (int) tenant, (int) from, (int) to);
    }

    /** What is kept of one TENANT. */
    private static final class Tenant {
        final int[] stack = new int[PLACES];
        int stackSize = 0;
        /** By places; 0: of COLD reads. */
        final int[] costs = new int[PLACES + 1];
        /** One more than may stay, for the KEY that makes them too many. */
        final int[] sample = new int[SAMPLE_SIZE + 1];
        int sampleSize = 0;
        int limit = HASHES;
        /** By places; 0: of what is farther. */
        final long[] parts = new long[PLACES + 1];
        final int[] record = new int[RECORD_SIZE];
        int recordSize = 0;

        void copyFrom(Tenant other) {
            System.arraycopy(other.stack, 0, stack, 0, PLACES);
            stackSize = other.stackSize;
            System.arraycopy(other.costs, 0, costs, 0, PLACES + 1);
            System.arraycopy(other.sample, 0, sample, 0, SAMPLE_SIZE + 1);
            sampleSize = other.sampleSize;
            limit = other.limit;
            System.arraycopy(other.parts, 0, parts, 0, PLACES + 1);
            System.arraycopy(other.record, 0, record, 0, RECORD_SIZE);
            recordSize = other.recordSize;
        }

        /** Adds the cost where the KEY is and puts it on top: the place at which it was. */
        int putOnTop(int key, int cost) {
            int place = placeIn(stack, stackSize, key);
            costs[place] += cost;
            if (place == 0 && stackSize < PLACES) {
                stackSize++;
            }
            putFirst(stack, place > 0 ? place - 1 : stackSize - 1, key);
            return place;
        }

        void noteRead(int key) {
            if (recordSize < RECORD_SIZE) {
                recordSize++;
            } else {
                System.arraycopy(record, 1, record, 0, RECORD_SIZE - 1);
            }
            record[recordSize - 1] = key;
        }

        void takeSample(int key, int cost, int salt) {
            if (limit < 1 || hashOf(key, salt) >= limit) {
                return;
            }
            int place = placeIn(sample, sampleSize, key);
            int scaled = place * HASHES / limit;
            parts[scaled > PLACES ? 0 : scaled] += 1000000L * cost / limit;
            if (place == 0) {
                sampleSize++;
            }
            putFirst(sample, place > 0 ? place - 1 : sampleSize - 1, key);
            if (sampleSize > SAMPLE_SIZE) {
                lowerLimit(salt);
            }
        }

        private void lowerLimit(int salt) {
            int greatest = 0;
            for (int i = 0; i < sampleSize; i++) {
                greatest = Math.max(greatest, hashOf(sample[i], salt));
            }
            limit = greatest;
            int staying = 0;
            for (int i = 0; i < sampleSize; i++) {
                if (hashOf(sample[i], salt) < limit) {
                    sample[staying] = sample[i];
                    staying++;
                }
            }
            sampleSize = staying;
        }

        void emptySample() {
            sampleSize = 0;
            limit = HASHES;
            Arrays.fill(parts, 0L);
        }

        /** A KEY leaves the STACK and the SAMPLE, if it is in the STACK: the place at which it was there. */
        int removeKey(int key) {
            int place = placeIn(stack, stackSize, key);
            if (place == 0) {
                return 0;
            }
            System.arraycopy(stack, place, stack, place - 1, stackSize - place);
            stackSize--;
            int sampled = placeIn(sample, sampleSize, key);
            if (sampled > 0) {
                System.arraycopy(sample, sampled, sample, sampled - 1, sampleSize - sampled);
                sampleSize--;
            }
            return place;
        }

        int timesRecorded(int key) {
            int times = 0;
            for (int i = 0; i < recordSize; i++) {
                times += record[i] == key ? 1 : 0;
            }
            return times;
        }

        int missesAt(int size) {
            int together = costs[0];
            for (int place = size + 1; place <= PLACES; place++) {
                together += costs[place];
            }
            return together;
        }

        int guessAt(int size) {
            long together = parts[0];
            for (int place = size + 1; place <= PLACES; place++) {
                together += parts[place];
            }
            return (int) Math.min(together / 1000, MOST_GUESSED);
        }

        /** Halves COSTS and PARTS: COSTS together as they are then. */
        int halve() {
            int together = 0;
            for (int place = 0; place <= PLACES; place++) {
                costs[place] /= 2;
                parts[place] /= 2;
                together += costs[place];
            }
            return together;
        }
    }

    /** All TENANTS and TIME: what is undone together. */
    private static final class World {
        final Tenant[] tenants = new Tenant[TENANTS];
        int time = 0;

        World() {
            for (int t = 0; t < TENANTS; t++) {
                tenants[t] = new Tenant();
            }
        }

        void copyFrom(World other) {
            for (int t = 0; t < TENANTS; t++) {
                tenants[t].copyFrom(other.tenants[t]);
            }
            time = other.time;
        }

        int passTime() {
            int together = 0;
            for (int t = 0; t < TENANTS; t++) {
                together += tenants[t].halve();
            }
            time++;
            return together;
        }

        /** Of those TENANTS (as bits) the most that have alike MISSES at a size. */
        int mostAlike(int those, int size) {
            int most = 0;
            for (int t = 0; t < TENANTS; t++) {
                if ((those >>> t & 1) == 0) {
                    continue;
                }
                int own = tenants[t].missesAt(size);
                // Those ahead of it need no look: the first of alike ones counts all of them.
                int alike = 1;
                for (int other = t + 1; other < TENANTS; other++) {
                    if ((those >>> other & 1) == 1 && tenants[other].missesAt(size) == own) {
                        alike++;
                    }
                }
                most = Math.max(most, alike);
            }
            return most;
        }
    }

    /** All that IMAGES keep. */
    private static final class Shop {
        final World world = new World();
        int chosenPolicy = LRU;
        int losses = 1;
        int mood = 0;
        int salt = 0;
        final int[] seenSizes = new int[MOST_SEEN];
        final int[] seenMisses = new int[MOST_SEEN];
        int seenCount = 0;
        /** A LAW is never changed once it is made, so IMAGES share it. */
        final Program[] laws = new Program[MOST_LAWS];
        int lawCount = 0;
        int inForce = NONE;

        void copyFrom(Shop other) {
            world.copyFrom(other.world);
            chosenPolicy = other.chosenPolicy;
            losses = other.losses;
            mood = other.mood;
            salt = other.salt;
            for (int i = 0; i < MOST_SEEN; i++) {
                seenSizes[i] = other.seenSizes[i];
                seenMisses[i] = other.seenMisses[i];
            }
            seenCount = other.seenCount;
            for (int i = 0; i < MOST_LAWS; i++) {
                laws[i] = other.laws[i];
            }
            lawCount = other.lawCount;
            inForce = other.inForce;
        }

        /** null for NONE. */
        Program lawOf(int number) {
            return number >= 0 && number < lawCount ? laws[number] : null;
        }

        int term(int what) {
            switch (what) {
                case 0:
                    return world.time;
                case 1:
                    return losses;
                case 2:
                    return mood;
                default:
                    return salt;
            }
        }

        void setTerm(int what, int value) {
            switch (what) {
                case 0:
                    world.time = value;
                    break;
                case 1:
                    losses = value;
                    break;
                case 2:
                    mood = value;
                    break;
                default:
                    salt = value;
                    for (int t = 0; t < TENANTS; t++) {
                        world.tenants[t].emptySample();
                    }
                    break;
            }
        }

        boolean fits(Tenant one) {
            for (int i = 0; i < seenCount; i++) {
                if (one.missesAt(seenSizes[i]) != seenMisses[i]) {
                    return false;
                }
            }
            return true;
        }
    }

    /** The latest of what can be undone: each with the world as it was ahead of it. */
    private static final class Trail {
        private final World[] worlds = new World[MOST_UNDONE];
        private final int[] kinds = new int[MOST_UNDONE];
        private int first = 0;
        int size = 0;

        Trail() {
            for (int i = 0; i < MOST_UNDONE; i++) {
                worlds[i] = new World();
            }
        }

        void clear() {
            first = 0;
            size = 0;
        }

        void push(int kind, World world) {
            int slot = nextSlot();
            kinds[slot] = kind;
            worlds[slot].copyFrom(world);
        }

        /** All that another trail has comes behind this one's; the other one is not used as it is then. */
        void take(Trail other) {
            for (int i = 0; i < other.size; i++) {
                int from = (other.first + i) % MOST_UNDONE;
                int slot = nextSlot();
                kinds[slot] = other.kinds[from];
                World spare = worlds[slot];
                worlds[slot] = other.worlds[from];
                other.worlds[from] = spare;
            }
            other.clear();
        }

        /** The kind of the latest, NONE without; the world is as it was ahead of it then. */
        int popInto(World world) {
            if (size == 0) {
                return NONE;
            }
            size--;
            int slot = (first + size) % MOST_UNDONE;
            world.copyFrom(worlds[slot]);
            return kinds[slot];
        }

        private int nextSlot() {
            if (size < MOST_UNDONE) {
                size++;
            } else {
                first = (first + 1) % MOST_UNDONE;
            }
            return (first + size - 1) % MOST_UNDONE;
        }
    }

    /** A TEXT of either language, compiled. */
    private static final class Program {
        int clauses = 0;
        final int[] kinds = new int[CLAUSES];
        final int[] times = new int[CLAUSES];
        /** Where the code of an "if" begins, NONE without. */
        final int[] tests = new int[CLAUSES];
        /** Where the code of a SUM begins: of a cost or a KEY, of a last KEY, of a TENANT. */
        final int[] from = new int[CLAUSES];
        final int[] to = new int[CLAUSES];
        final int[] by = new int[CLAUSES];
        final int[] code;
        int codeLength = 0;

        Program(int size) {
            code = new int[Math.max(size, 0)];
        }

        Program trimmed() {
            Program copy = new Program(codeLength);
            copy.clauses = clauses;
            copy.codeLength = codeLength;
            for (int n = 0; n < CLAUSES; n++) {
                copy.kinds[n] = kinds[n];
                copy.times[n] = times[n];
                copy.tests[n] = tests[n];
                copy.from[n] = from[n];
                copy.to[n] = to[n];
                copy.by[n] = by[n];
            }
            System.arraycopy(code, 0, copy.code, 0, codeLength);
            return copy;
        }

        void emit(int what, int value) {
            if (codeLength + 2 <= code.length) {
                code[codeLength] = what;
                code[codeLength + 1] = value;
                codeLength += 2;
            }
        }

        /** A jump, emitted two elements ahead of 'behind', goes to where the code ends now. */
        void land(int behind) {
            if (behind >= 2 && behind <= codeLength) {
                code[behind - 1] = codeLength;
            }
        }
    }

    /** Reads TEXTS; each method that reads a part of one answers whether it could, else the FAULT is told. */
    private static final class Parser {
        final Program program = new Program(CODE_SIZE);
        int faultAt = NONE;
        private int[] text = new int[0];
        private int length = 0;
        private boolean ofOrders = false;
        private int partCount = 0;
        /** The TOKEN that is looked at: its kind, where it begins, where what is behind it begins. */
        private int kind = END;
        private int start = 0;
        private int behind = 0;
        /** A NUMBER's value (cut beyond all that can be), a single byte. */
        private int value = 0;

        int namedPolicy(int[] bytes, int size) {
            begin(bytes, size);
            int named = isWord("lru") ? LRU : isWord("mru") ? MRU : isWord("fifo") ? FIFO
                : isWord("lfu") ? LFU : isWord("min") ? MIN : NONE;
            if (named != NONE) {
                advance();
            }
            if (named == NONE || kind != END) {
                fail();
                return NONE;
            }
            return named;
        }

        boolean compile(int[] bytes, int size, boolean orders) {
            begin(bytes, size);
            ofOrders = orders;
            partCount = 0;
            program.clauses = 0;
            program.codeLength = 0;
            for (int n = 0; n < CLAUSES; n++) {
                if (!(orders ? orderHead(n) : lawHead(n)) || !condition(n)) {
                    return false;
                }
                program.clauses = n + 1;
                if (kind == END) {
                    return true;
                }
                if (!isSign(';')) {
                    return fail();
                }
                advance();
            }
            return fail();
        }

        private void begin(int[] bytes, int size) {
            text = bytes;
            length = Math.min(size, bytes.length);
            behind = 0;
            faultAt = NONE;
            advance();
        }

        private void advance() {
            int at = behind;
            while (at < length && text[at] == ' ') {
                at++;
            }
            start = at;
            kind = at < length ? kindOf(text[at]) : END;
            value = kind == SIGN ? text[at] : 0;
            if (kind == SIGN) {
                at++;
            }
            while (at < length && kind != SIGN && kindOf(text[at]) == kind) {
                if (kind == DIGITS) {
                    value = Math.min(10 * value + text[at] - '0', MOST_NUMBER + 1);
                }
                at++;
            }
            behind = at;
        }

        private static int kindOf(int sign) {
            if (sign >= 'a' && sign <= 'z') {
                return LETTERS;
            }
            return sign >= '0' && sign <= '9' ? DIGITS : SIGN;
        }

        private boolean isSign(char sign) {
            return kind == SIGN && value == sign;
        }

        private boolean isWord(String word) {
            if (kind != LETTERS || behind - start != word.length()) {
                return false;
            }
            for (int i = 0; i < word.length(); i++) {
                if (text[start + i] != word.charAt(i)) {
                    return false;
                }
            }
            return true;
        }

        private boolean fail() {
            faultAt = start;
            return false;
        }

        private boolean lawHead(int n) {
            if (isWord("bars")) {
                program.kinds[n] = BARS;
                advance();
                return true;
            }
            if (!isWord("costs")) {
                return fail();
            }
            program.kinds[n] = COSTS;
            return sumBehind(program.from, n);
        }

        private boolean orderHead(int n) {
            int what = isWord("read") ? READ : isWord("loop") ? LOOP : isWord("drop") ? DROP
                : isWord("pass") ? PASS : NONE;
            if (what == NONE) {
                return fail();
            }
            program.kinds[n] = what;
            if (what == PASS) {
                advance();
                return times(n);
            }
            if (!sumBehind(program.from, n)) {
                return false;
            }
            if (what == LOOP) {
                if (!isWord("to")) {
                    return fail();
                }
                if (!sumBehind(program.to, n)) {
                    return false;
                }
            }
            if (!isWord("by")) {
                return fail();
            }
            return sumBehind(program.by, n) && times(n);
        }

        private boolean times(int n) {
            program.times[n] = 1;
            if (!isWord("times")) {
                return true;
            }
            advance();
            if (kind != DIGITS || value < 1 || value > MOST_TIMES) {
                return fail();
            }
            program.times[n] = value;
            advance();
            return true;
        }

        private boolean condition(int n) {
            program.tests[n] = NONE;
            if (!isWord("if")) {
                return true;
            }
            advance();
            program.tests[n] = program.codeLength;
            if (!test(0)) {
                return false;
            }
            program.emit(STOP, 0);
            return true;
        }

        /** The SUM behind the word that is looked at. */
        private boolean sumBehind(int[] begins, int n) {
            advance();
            begins[n] = program.codeLength;
            if (!sum(0)) {
                return false;
            }
            program.emit(STOP, 0);
            return true;
        }

        private boolean test(int depth) {
            if (!both(depth)) {
                return false;
            }
            for (int i = 0; i < TAPE_SIZE && isWord("or"); i++) {
                advance();
                program.emit(OR, 0);
                int jump = program.codeLength;
                if (!both(depth)) {
                    return false;
                }
                program.land(jump);
            }
            return true;
        }

        private boolean both(int depth) {
            if (!plain(depth)) {
                return false;
            }
            for (int i = 0; i < TAPE_SIZE && isWord("and"); i++) {
                advance();
                program.emit(AND, 0);
                int jump = program.codeLength;
                if (!plain(depth)) {
                    return false;
                }
                program.land(jump);
            }
            return true;
        }

        private boolean plain(int depth) {
            boolean turned = false;
            for (int i = 0; i < TAPE_SIZE && isWord("not"); i++) {
                turned = !turned;
                advance();
            }
            if (!(isSign('(') ? bracketed(depth, ')') : comparison(depth))) {
                return false;
            }
            if (turned) {
                program.emit(NOT, 0);
            }
            return true;
        }

        private boolean comparison(int depth) {
            if (!sum(depth)) {
                return false;
            }
            if (!isSign('<') && !isSign('>') && !isSign('=')) {
                return fail();
            }
            int sign = value;
            advance();
            if (!sum(depth)) {
                return false;
            }
            program.emit(sign, 0);
            return true;
        }

        /** What stands in brackets, the opening one of which is looked at: a TEST in round ones, else a SUM. */
        private boolean bracketed(int depth, char closing) {
            if (depth >= MOST_BRACKETS) {
                return fail();
            }
            advance();
            if (!(closing == ')' ? test(depth + 1) : sum(depth + 1))) {
                return false;
            }
            if (!isSign(closing)) {
                return fail();
            }
            advance();
            return true;
        }

        private boolean sum(int depth) {
            if (!product(depth)) {
                return false;
            }
            for (int i = 0; i < TAPE_SIZE && (isSign('+') || isSign('-')); i++) {
                int sign = value;
                advance();
                if (!product(depth)) {
                    return false;
                }
                program.emit(sign, 0);
            }
            return true;
        }

        private boolean product(int depth) {
            if (!part(depth)) {
                return false;
            }
            for (int i = 0; i < TAPE_SIZE && (isSign('*') || isSign('/') || isSign('%')); i++) {
                int sign = value;
                advance();
                if (!part(depth)) {
                    return false;
                }
                program.emit(sign, 0);
            }
            return true;
        }

        private boolean part(int depth) {
            if (isSign('[')) {
                return bracketed(depth, ']');
            }
            int word = ofOrders ? orderWord() : lawWord();
            boolean number = kind == DIGITS && value <= MOST_NUMBER;
            if (!number && word == NONE || partCount >= MOST_PARTS) {
                return fail();
            }
            partCount++;
            if (number) {
                program.emit(NUMBER, value);
                advance();
                return true;
            }
            advance();
            if (ofOrders && word >= ORDER_COLD) {
                if (kind != DIGITS || value >= TENANTS) {
                    return fail();
                }
                word += value;
                advance();
            }
            program.emit(WORD, word);
            return true;
        }

        private int lawWord() {
            return isWord("tenant") ? LAW_TENANT : isWord("key") ? LAW_KEY : isWord("reads") ? LAW_READS
                : isWord("far") ? LAW_FAR : isWord("time") ? LAW_TIME : isWord("mood") ? LAW_MOOD : NONE;
        }

        private int orderWord() {
            return isWord("time") ? ORDER_TIME : isWord("done") ? ORDER_DONE : isWord("latest") ? ORDER_LATEST
                : isWord("cold") ? ORDER_COLD : isWord("deep") ? ORDER_DEEP : NONE;
        }
    }

    /** Runs compiled SUMS and TESTS; tells what a LAW says of a KEY. */
    private static final class Judge {
        int cost = 1;
        boolean barred = false;
        final int[] orderWords = new int[ORDER_WORDS];
        private final int[] lawWords = new int[LAW_WORDS];
        /** Within 8 brackets no more than some 20 numbers wait for others. */
        private final long[] stack = new long[64];

        void weigh(Shop shop, Program law, World world, int tenant, int key) {
            cost = 1;
            barred = false;
            if (law == null) {
                return;
            }
            Tenant one = world.tenants[tenant];
            lawWords[LAW_TENANT] = tenant;
            lawWords[LAW_KEY] = key;
            lawWords[LAW_READS] = one.timesRecorded(key);
            lawWords[LAW_FAR] = placeIn(one.stack, one.stackSize, key);
            lawWords[LAW_TIME] = world.time;
            lawWords[LAW_MOOD] = shop.mood;
            for (int n = 0; n < law.clauses; n++) {
                if (law.tests[n] != NONE && evaluate(law, law.tests[n], lawWords) != 1) {
                    continue;
                }
                if (law.kinds[n] == BARS) {
                    barred = true;
                    continue;
                }
                long told = evaluate(law, law.from[n], lawWords);
                if (told != BROKEN) {
                    cost = (int) Math.max(0, Math.min(told, 99));
                }
            }
        }

        /** A SUM's value, 1 or 0 for a TEST, BROKEN. */
        long evaluate(Program program, int from, int[] words) {
            int size = 0;
            for (int at = Math.max(from, 0); at + 1 < program.codeLength; at += 2) {
                int what = program.code[at];
                int value = program.code[at + 1];
                if (what == STOP) {
                    return size > 0 ? stack[size - 1] : BROKEN;
                }
                if (what == NUMBER || what == WORD) {
                    if (size >= stack.length || what == WORD && (value < 0 || value >= words.length)) {
                        return BROKEN;
                    }
                    stack[size] = what == NUMBER ? value : words[value];
                    size++;
                } else if (size < 1) {
                    return BROKEN;
                } else if (what == NOT) {
                    stack[size - 1] = 1 - stack[size - 1];
                } else if (what == OR || what == AND) {
                    if (stack[size - 1] == (what == OR ? 1 : 0)) {
                        at = Math.max(at, value - 2);
                    } else {
                        size--;
                    }
                } else {
                    long both = size < 2 ? BROKEN : combine(what, stack[size - 2], stack[size - 1]);
                    if (both == BROKEN) {
                        return BROKEN;
                    }
                    size--;
                    stack[size - 1] = both;
                }
            }
            return BROKEN;
        }

        private static long combine(int sign, long a, long b) {
            long both;
            switch (sign) {
                case '<':
                    return a < b ? 1 : 0;
                case '>':
                    return a > b ? 1 : 0;
                case '=':
                    return a == b ? 1 : 0;
                case '+':
                    both = a + b;
                    break;
                case '-':
                    both = a - b;
                    break;
                case '*':
                    both = a * b;
                    break;
                case '/':
                    both = b == 0 ? BROKEN : a / b;
                    break;
                case '%':
                    both = b == 0 ? BROKEN : a % b;
                    break;
                default:
                    return BROKEN;
            }
            return both < -BEYOND || both > BEYOND ? BROKEN : both;
        }
    }

    /** The MISSES of one TENANT at all sizes, with its BENDS; the latest REPORT. */
    private static final class Curve {
        final int[] bends = new int[PLACES + 1];
        int bendCount = 0;
        final StringBuilder signs = new StringBuilder();
        private final long[] curve = new long[PLACES + 1];

        void load(Tenant one) {
            long together = one.costs[0];
            for (int c = PLACES; c >= 0; c--) {
                curve[c] = together;
                together += one.costs[c];
            }
            bends[0] = 0;
            bendCount = 1;
            int at = 0;
            for (int i = 0; i < PLACES && at < PLACES; i++) {
                at = nextBend(at);
                bends[bendCount] = at;
                bendCount++;
            }
        }

        /** The size to which the line from this one falls most steeply; of alike ones the last. */
        private int nextBend(int at) {
            int to = at + 1;
            for (int c = at + 2; c <= PLACES; c++) {
                if ((curve[c] - curve[at]) * (to - at) <= (curve[to] - curve[at]) * (c - at)) {
                    to = c;
                }
            }
            return to;
        }

        /** Which BEND (1 the second) is the first that is not ahead of a size. */
        int bendFrom(int size) {
            for (int i = 1; i < bendCount; i++) {
                if (bends[i] >= size) {
                    return i;
                }
            }
            return 1;
        }

        long hullAt(int size) {
            int i = bendFrom(size);
            int a = bends[i - 1];
            int b = bends[i];
            return a < b ? 1000 * (curve[a] * (b - size) + curve[b] * (size - a)) / (b - a) : 1000 * curve[a];
        }

        /** By how much the HULL falls from this BEND's forerunner to it. */
        long fallTo(int i) {
            return curve[bends[i - 1]] - curve[bends[i]];
        }

        int widthTo(int i) {
            return bends[i] - bends[i - 1];
        }

        int writeReport() {
            signs.setLength(0);
            for (int i = 0; i < bendCount; i++) {
                if (i > 0) {
                    signs.append(',');
                }
                signs.append(bends[i]);
                signs.append(':');
                signs.append((int) curve[bends[i]]);
            }
            signs.append('.');
            return signs.length();
        }
    }

    /** Deals sizes to TENANTS. */
    private static final class Dealer {
        final int[] dealt = new int[TENANTS];
        private final long[] falls = new long[TENANTS * PLACES];
        private final long[] widths = new long[TENANTS * PLACES];
        private final int[] curves = new int[TENANTS * (PLACES + 1)];
        /** By the first TENANT that takes part and what is left for those from it on: MISSES, the first one's size. */
        private final int[] fewest = new int[(TENANTS + 1) * (MOST_SHARED + 1)];
        private final int[] sizes = new int[TENANTS * (MOST_SHARED + 1)];

        void loadFalls(int tenant, Curve curve) {
            for (int c = 0; c < PLACES; c++) {
                int i = curve.bendFrom(c + 1);
                falls[tenant * PLACES + c] = curve.fallTo(i);
                widths[tenant * PLACES + c] = curve.widthTo(i);
            }
        }

        void dealByFalls(int size) {
            Arrays.fill(dealt, 0);
            for (int i = 0; i < size; i++) {
                int most = NONE;
                for (int t = 0; t < TENANTS; t++) {
                    if (dealt[t] < PLACES && (most == NONE || fallsMore(t, most))) {
                        most = t;
                    }
                }
                if (most != NONE) {
                    dealt[most]++;
                }
            }
        }

        /** Whether one more lets the HULL of a TENANT fall more than another one's: both are fractions. */
        private boolean fallsMore(int tenant, int other) {
            int a = tenant * PLACES + dealt[tenant];
            int b = other * PLACES + dealt[other];
            return falls[a] * widths[b] > falls[b] * widths[a];
        }

        void loadMisses(int tenant, Tenant one) {
            int together = one.costs[0];
            for (int c = PLACES; c >= 0; c--) {
                curves[tenant * (PLACES + 1) + c] = together;
                together += one.costs[c];
            }
        }

        /** The fewest MISSES together. */
        int dealBest(int size) {
            for (int t = TENANTS - 1; t >= 0; t--) {
                for (int left = t == 0 ? size : 0; left <= size; left++) {
                    chooseSize(t, left);
                }
            }
            int left = size;
            for (int t = 0; t < TENANTS; t++) {
                dealt[t] = sizes[t * (MOST_SHARED + 1) + left];
                left -= dealt[t];
            }
            return fewest[size];
        }

        /** The least size for a TENANT by which it and those behind it have the fewest MISSES. */
        private void chooseSize(int tenant, int left) {
            int own = tenant * (PLACES + 1);
            int behind = (tenant + 1) * (MOST_SHARED + 1) + left;
            int size = 0;
            int least = curves[own] + fewest[behind];
            for (int c = 1; c <= PLACES && c <= left; c++) {
                int together = curves[own + c] + fewest[behind - c];
                if (together < least) {
                    least = together;
                    size = c;
                }
            }
            fewest[tenant * (MOST_SHARED + 1) + left] = least;
            sizes[tenant * (MOST_SHARED + 1) + left] = size;
        }
    }

    /** Reads a RECORD again; its different KEYS, 32 at most, are told as bits. */
    private static final class Replayer {
        private int length = 0;
        int different = 0;
        /** Which of the different KEYS each READ is of, and the next READ of the same one. */
        private final int[] which = new int[RECORD_SIZE];
        private final int[] next = new int[RECORD_SIZE];
        private final int[] keys = new int[RECORD_SIZE];
        /** Of each different KEY: its latest READ, since when it is held, how often it was read. */
        private final int[] last = new int[RECORD_SIZE];
        private final int[] since = new int[RECORD_SIZE];
        private final int[] reads = new int[RECORD_SIZE];
        private final int[] heldBehind = new int[RECORD_SIZE];
        private final int[] heldBySmaller = new int[RECORD_SIZE];

        void load(Tenant one) {
            length = one.recordSize;
            different = 0;
            for (int i = 0; i < length; i++) {
                int place = placeIn(keys, different, one.record[i]);
                if (place == 0) {
                    keys[different] = one.record[i];
                    different++;
                    place = different;
                }
                which[i] = place - 1;
            }
            Arrays.fill(last, RECORD_SIZE);
            for (int i = length - 1; i >= 0; i--) {
                next[i] = last[which[i]];
                last[which[i]] = i;
            }
        }

        /** How many misses; what is held behind each READ is told in heldBehind. */
        int play(int policy, int places) {
            Arrays.fill(reads, 0);
            int held = 0;
            int holding = 0;
            int missed = 0;
            for (int i = 0; i < length; i++) {
                int one = which[i];
                if ((held >>> one & 1) == 0) {
                    missed++;
                    if (holding < places) {
                        holding++;
                    } else if (places > 0) {
                        held &= ~(1 << leaving(policy, held));
                    }
                    if (places > 0) {
                        held |= 1 << one;
                        since[one] = i;
                    }
                }
                last[one] = i;
                reads[one]++;
                heldBehind[i] = held;
            }
            return missed;
        }

        int firstSpilt(int policy) {
            int first = length;
            play(policy, 1);
            // With a place for each different KEY none ever leaves.
            for (int c = 1; c < PLACES && c < different; c++) {
                System.arraycopy(heldBehind, 0, heldBySmaller, 0, RECORD_SIZE);
                play(policy, c + 1);
                for (int i = 0; i < first; i++) {
                    if ((heldBySmaller[i] & ~heldBehind[i]) != 0) {
                        first = i;
                    }
                }
            }
            return first < length ? first : NONE;
        }

        private int leaving(int policy, int held) {
            int leaving = NONE;
            for (int k = 0; k < different; k++) {
                if ((held >>> k & 1) == 1 && (leaving == NONE || leavesAhead(policy, k, leaving))) {
                    leaving = k;
                }
            }
            return Math.max(leaving, 0);
        }

        private boolean leavesAhead(int policy, int k, int other) {
            switch (policy) {
                case LRU:
                    return last[k] < last[other];
                case MRU:
                    return last[k] > last[other];
                case FIFO:
                    return since[k] < since[other];
                case LFU:
                    return reads[k] != reads[other] ? reads[k] < reads[other] : last[k] < last[other];
                default:
                    int again = next[last[k]];
                    int otherAgain = next[last[other]];
                    return again != otherAgain ? again > otherAgain : keys[k] < keys[other];
            }
        }
    }
}
