/** The boundary cases that section II of the document's 'Terms' names, of TEXTS, LAWS and ORDERS: a test for each sentence. */
public final class TextsEdgesTest {
    private static final Edges edges = new Edges();

    private static void sentence(String quote) {
        edges.sentence(quote);
    }

    private static void due(long want, long got) {
        edges.due(want, got);
    }

    /** NONE if the TEXT becomes a LAW, else its FAULT. */
    private static int lawFault(String text) {
        MissCurves x = new MissCurves();
        int answer = Edges.law(x, text);
        return answer == -6 ? x.fault() : answer == 0 && x.fault() == -1 ? -1 : -99;
    }

    /** NONE if the TEXT can be ORDERS (run or not), else its FAULT. */
    private static int ordersFault(String text) {
        MissCurves x = new MissCurves();
        int answer = Edges.orders(x, text);
        return answer == -6 ? x.fault() : x.fault() == -1 ? -1 : -99;
    }

    private static int policyFault(String text) {
        MissCurves x = new MissCurves();
        int answer = Edges.policy(x, text);
        return answer == -6 ? x.fault() : answer >= 0 && x.fault() == -1 ? -1 : -99;
    }

    /** What a miss of KEY 7 of TENANT 2 COSTS by a LAW, nothing read. */
    private static int cost(String law) {
        MissCurves x = new MissCurves();
        return Edges.law(x, law) == 0 ? x.compare(0, 2, 7) : -99;
    }

    /** 1 if a TEST is so, 0 if it is not, -1 if it is BROKEN: then neither it nor what "not" makes of it HOLDS. */
    private static int test(String test) {
        boolean is = cost("costs 50 if " + test) == 50;
        boolean isNot = cost("costs 50 if not (" + test + ")") == 50;
        return is && isNot ? -99 : is ? 1 : isNot ? 0 : -1;
    }

    // The TAPE and its TOKENS.

    private static void tape() {
        sentence("TEXTS are on a TAPE of at most 400 bytes.");
        due(-1, lawFault(" ".repeat(396) + "bars"));
        due(-1, lawFault("bars" + " ".repeat(396)));
        due(400, lawFault("costs" + " ".repeat(395)));
        due(399, lawFault(" ".repeat(399) + "x"));
        due(-1, ordersFault("pass" + " ".repeat(396)));
        due(-1, policyFault(" ".repeat(397) + "min"));
        MissCurves x = new MissCurves();
        Edges.tell(x, "bars" + " ".repeat(396));
        due(400, x.count(4));
        due(-1, x.feed(0, 0, 0, 0, 0));
        due(0, x.law());
    }

    private static void tokens() {
        sentence("TOKENS: longest rows of letters a .. z, of digits, single other bytes, any blanks (32) between.");
        due(12, cost("costs12"));
        due(12, cost("costs12if1=1"));
        due(3, cost("   costs   1  +  2   if   key  =  7   "));
        due(8, lawFault("costs 1 2"));
        due(0, lawFault("co sts 1"));
        due(0, lawFault("barsbars"));
        due(0, lawFault("barsz"));
        due(0, lawFault("barsa"));
        due(0, lawFault("abars"));
        due(6, lawFault("costs keyfar"));
        due(10, lawFault("costs key far"));
        due(9, cost("costs 09"));
        due(10, cost("costs 10"));
        due(8, lawFault("costs 1 0"));
        // Just outside a .. z, 0 .. 9 and the blank: each is a TOKEN of its own that can't be there.
        for (int sign : new int[] {0, 9, 10, 13, 31, 33, 58, 64, 'A', 'Z', 91 + 1, 95, 96, 123, 127, 128, 160, 255}) {
            due(4, lawFault("bars" + (char) sign));
            due(0, lawFault((char) sign + "bars"));
            due(7, lawFault("costs 1" + (char) sign + "1"));
            due(3, policyFault("lru" + (char) sign));
            due(4, ordersFault("pass" + (char) sign));
        }
        due(5, lawFault("bars;;bars"));
        due(10, lawFault("bars if 1<=2"));
        due(10, lawFault("bars if 1==2"));
        due(8, lawFault("costs 1++1"));
        due(0, lawFault("bArs"));
        due(1, ordersFault(" Pass"));
    }

    private static void policies() {
        sentence("A POLICY is told by one TOKEN, its name, alone (FAULT: the first TOKEN that can't be, the end's the TEXT's length).");
        for (String name : new String[] {"lru", "mru", "fifo", "lfu", "min"}) {
            due(-1, policyFault(name));
            due(-1, policyFault("  " + name + "  "));
            due(name.length() + 1, policyFault(name + " " + name));
            due(name.length(), policyFault(name + ";"));
            due(name.length(), policyFault(name + "1"));
            due(1, policyFault(" " + name + "a"));
            due(0, policyFault(name.substring(1)));
        }
        edges.refusedPolicy(0, "");
        edges.refusedPolicy(3, "   ");
        edges.refusedPolicy(0, "opt");
        edges.refusedPolicy(2, "  7");
        edges.refusedPolicy(4, "min max");
        edges.refusedPolicy(400, " ".repeat(400));
    }

    // The grammar of both languages.

    private static void clauses() {
        sentence("CLAUSE {\";\" CLAUSE}, 12 at most (FAULT at the 13th's first TOKEN)");
        String laws = "bars" + ";bars".repeat(11);
        due(-1, lawFault(laws));
        due(60, lawFault(laws + ";bars"));
        due(62, lawFault(laws + ";  bars"));
        due(60, lawFault(laws + ";costs 1001"));
        due(60, lawFault(laws + ";"));
        due(61, lawFault(laws + "; "));
        due(59, lawFault(laws + ",bars"));
        due(4, cost("bars;".repeat(11) + "costs 4"));
        String orders = "pass" + ";pass".repeat(11);
        due(-1, ordersFault(orders));
        due(60, ordersFault(orders + ";pass"));
        due(60, ordersFault(orders + ";"));
        due(12, Edges.orders(new MissCurves(), orders));
        edges.refusedLaw(60, laws + ";bars");
        edges.refusedOrders(60, orders + ";pass");
        due(5, lawFault("bars;"));
        due(0, lawFault(";bars"));
        due(0, lawFault(""));
    }

    private static void tests() {
        sentence("TEST: BOTH {\"or\" BOTH}. BOTH: PLAIN {\"and\" PLAIN}. PLAIN: \"not\" PLAIN | \"(\" TEST \")\" | SUM (\"<\" | \">\" | \"=\") SUM.");
        due(1, test("1=1 or 1=2 and 1=2"));
        due(0, test("(1=1 or 1=2) and 1=2"));
        due(1, test("1=2 and 1=2 or 1=1"));
        due(0, test("not 1=1 or 1=2"));
        due(1, test("not 1=2 and 1=1"));
        due(0, test("not not 1=2"));
        due(1, test("not (1=1 and 1=2)"));
        due(0, test("1<1"));
        due(1, test("1<2"));
        due(0, test("2<1"));
        due(0, test("1>1"));
        due(1, test("2>1"));
        due(0, test("1>2"));
        due(1, test("2=1+1"));
        due(1, test("0-1<0"));
        due(7, lawFault("bars if"));
        due(8, lawFault("bars if or 1=1"));
        due(15, lawFault("bars if 1=1 or or 1=1"));
        due(11, lawFault("bars if not"));
        due(9, lawFault("bars if ("));
        due(9, lawFault("bars if ()"));
        due(12, lawFault("bars if (1=1"));
        due(12, lawFault("bars if (1=1]"));
        due(11, lawFault("bars if 1=1)"));
        due(10, lawFault("bars if (1)=1"));
        due(9, lawFault("bars if 1"));
        due(11, lawFault("bars if 1=1=1"));
        due(-1, lawFault("bars if " + "not ".repeat(97) + "1=1"));
        due(-1, lawFault("bars if ((1=1) or not (not (2=2)))"));
    }

    private static void sums() {
        sentence("SUM: TERM {(\"+\" | \"-\") TERM}. TERM: PART {(\"*\" | \"/\" | \"%\") PART}.");
        due(7, cost("costs 1+2*3"));
        due(9, cost("costs [1+2]*3"));
        due(4, cost("costs 9-3-2"));
        due(8, cost("costs 9-[3-2]"));
        due(8, cost("costs 16/4*2"));
        due(2, cost("costs 16/[4*2]"));
        due(3, cost("costs 17%7*1"));
        due(6, cost("costs 17%7*2"));
        due(1, cost("costs 100/10%3"));
        due(6, lawFault("costs -1"));
        due(6, lawFault("costs +1"));
        due(8, lawFault("costs 1+"));
        due(8, lawFault("costs 1*-1"));
        sentence("PART: NUMBER (to 1,000) | \"[\" SUM \"]\" | a word, as told.");
        due(99, cost("costs 1000"));
        due(0, cost("costs 0"));
        due(1, test("1000=999+1"));
        due(6, lawFault("costs 1001"));
        due(6, lawFault("costs 10000"));
        due(6, lawFault("costs 4294967296"));
        due(6, lawFault("costs 4294967297"));
        due(6, lawFault("costs " + "9".repeat(390)));
        due(5, ordersFault("read 1001 by 0"));
        due(10, ordersFault("read 0 by 1001"));
        due(7, lawFault("costs []"));
        due(8, lawFault("costs [1"));
        due(8, lawFault("costs [1)"));
        due(7, lawFault("costs 1]"));
        due(8, lawFault("costs [1=1]"));
        due(6, lawFault("costs (1)"));
    }

    private static void parts() {
        sentence("50 PARTS that are NUMBERS and words (FAULT at the 51st)");
        String fifty = "1" + "+1".repeat(49);
        due(50, cost("costs " + fifty));
        due(106, lawFault("costs " + fifty + "+1"));
        due(106, lawFault("costs " + fifty + "+key"));
        due(106, lawFault("costs " + fifty + "+1001"));
        due(106, lawFault("costs " + fifty + "+"));
        due(107, lawFault("costs " + fifty + "+[1]"));
        // Words and NUMBERS of all CLAUSES of a TEXT are counted together.
        due(-1, lawFault("costs key+" + fifty.substring(6) + " if far=1"));
        due(113, lawFault("costs key+" + fifty.substring(6) + " if far=1+mood"));
        due(-1, lawFault("costs 1;".repeat(11) + "costs 1" + "+1".repeat(38)));
        due(172, lawFault("costs 1;".repeat(11) + "costs 1" + "+1".repeat(39)));
        edges.refusedLaw(106, "costs " + fifty + "+1");
        String orders = "read 1 by 0;read " + "1" + "+1".repeat(46) + " by 0";
        due(-1, ordersFault(orders));
        due(119, ordersFault(orders + " if 1=1"));
        edges.refusedOrders(119, orders + " if 1=1");
    }

    private static void brackets() {
        sentence("8 brackets of both kinds within one another (FAULT at the 9th) at most.");
        due(3, cost("costs " + "[".repeat(8) + "3" + "]".repeat(8)));
        due(14, lawFault("costs " + "[".repeat(9) + "3" + "]".repeat(9)));
        due(-1, lawFault("bars if " + "(".repeat(8) + "1=1" + ")".repeat(8)));
        due(16, lawFault("bars if " + "(".repeat(9) + "1=1" + ")".repeat(9)));
        due(-1, lawFault("bars if " + "(".repeat(4) + "[[[[1]]]]=1" + ")".repeat(4)));
        due(16, lawFault("bars if " + "(".repeat(4) + "[[[[[1]]]]]=1" + ")".repeat(4)));
        due(-1, lawFault("bars if " + "(".repeat(7) + "1=[1]" + ")".repeat(7)));
        due(18, lawFault("bars if " + "(".repeat(8) + "1=[1]" + ")".repeat(8)));
        due(20, lawFault("bars if (not " + "(".repeat(7) + "[1]=1" + ")".repeat(8)));
        // Behind what joins two of them an 8th may come, no 9th.
        for (char sign : "+-*/%".toCharArray()) {
            due(-1, lawFault("costs " + "[".repeat(7) + "1" + sign + "[1]" + "]".repeat(7)));
            due(-1, lawFault("costs " + "[".repeat(7) + "1" + sign + "1" + sign + "[1]" + "]".repeat(7)));
            due(16, lawFault("costs " + "[".repeat(8) + "1" + sign + "[1]" + "]".repeat(8)));
            due(18, lawFault("costs " + "[".repeat(8) + "1" + sign + "1" + sign + "[1]" + "]".repeat(8)));
        }
        for (char sign : "<>=".toCharArray()) {
            due(-1, lawFault("bars if " + "(".repeat(7) + "1" + sign + "[1]" + ")".repeat(7)));
            due(18, lawFault("bars if " + "(".repeat(8) + "1" + sign + "[1]" + ")".repeat(8)));
        }
        for (String word : new String[] {"or", "and"}) {
            String joined = "1=1" + word;
            due(-1, lawFault("bars if " + "(".repeat(7) + joined + "(1=1)" + ")".repeat(7)));
            due(-1, lawFault("bars if " + "(".repeat(7) + joined + joined + "(1=1)" + ")".repeat(7)));
            due(16 + joined.length(), lawFault("bars if " + "(".repeat(8) + joined + "(1=1)" + ")".repeat(8)));
            due(16 + 2 * joined.length(), lawFault("bars if " + "(".repeat(8) + joined + joined + "(1=1)" + ")".repeat(8)));
            due(16 + joined.length(), lawFault("bars if " + "(".repeat(8) + joined + "[1]=1" + ")".repeat(8)));
        }
        // Side by side there may be more.
        due(20, cost("costs [1]" + "+[1]".repeat(19)));
        due(-1, lawFault("bars if (1=1)" + " or (1=1)".repeat(19)));
        due(2, cost("costs " + "[".repeat(8) + "1" + "]".repeat(8) + "+" + "[".repeat(8) + "1" + "]".repeat(8)));
        due(-1, ordersFault("read " + "[".repeat(8) + "3" + "]".repeat(8) + " by 0"));
        edges.refusedOrders(13, "read " + "[".repeat(9) + "3" + "]".repeat(9) + " by 0");
        edges.refusedLaw(16, "bars if " + "(".repeat(9) + "1=1" + ")".repeat(9));
    }

    private static void faults() {
        sentence("FAULT: the first TOKEN that can't go on there (the end's: the TEXT's length).");
        edges.refusedLaw(0, "");
        edges.refusedLaw(2, "  ");
        edges.refusedLaw(5, "costs");
        edges.refusedLaw(8, "costs   ");
        edges.refusedLaw(5, "bars 1");
        edges.refusedLaw(0, "read 1 by 1");
        edges.refusedOrders(0, "");
        edges.refusedOrders(7, "       ");
        edges.refusedOrders(4, "read");
        edges.refusedOrders(9, "read 1 by");
        edges.refusedOrders(0, "bars");
        // A TEXT that ends, a CLAUSE that ends too early, at each place where more must come.
        String[] laws = {"costs", "costs 1+", "costs 1*", "costs [", "costs [1", "bars if", "bars if not", "bars if (", "bars if (1=1", "bars if 1", "bars if 1<",
            "bars if 1=1 or", "bars if 1=1 and", "bars if (1=1 or", "costs [1+", "bars if [1"};
        for (String law : laws) {
            due(law.length(), lawFault(law));
            due(law.length() + 2, lawFault(law + "  "));
            due(law.length(), lawFault(law + ";bars"));
        }
        String[] orders = {"read", "read 1", "read 1 by", "loop", "loop 1", "loop 1 to", "loop 1 to 2", "loop 1 to 2 by", "drop", "drop 1", "drop 1 by", "pass times",
            "pass if", "pass if 1", "pass if 1=1 or", "pass if 1=1 and", "read cold", "read deep", "read 1+", "read 1 by 0 times", "pass if 1="};
        for (String order : orders) {
            due(order.length(), ordersFault(order));
            due(order.length() + 1, ordersFault(order + " "));
            due(order.length(), ordersFault(order + ";pass"));
        }
        due(8, lawFault("costs 1 costs 2"));
        due(9, lawFault("costs 1  ,"));
        due(8, lawFault("costs 1 then"));
    }

    /** Each letter of each word of a TEXT that can be is another one, or none; each word has one letter more: FAULT at that word. */
    private static void misspelt(String text, boolean isLaw) {
        due(-1, isLaw ? lawFault(text) : ordersFault(text));
        int from = 0;
        for (int i = 0; i < text.length(); i++) {
            if (!Character.isLetter(text.charAt(i))) {
                from = i + 1;
                continue;
            }
            String ahead = text.substring(0, i);
            String behind = text.substring(i + 1);
            String[] wrong = {ahead + "x" + behind, ahead + Character.toUpperCase(text.charAt(i)) + behind, ahead + text.charAt(i) + "x" + behind};
            for (String one : wrong) {
                due(from, isLaw ? lawFault(one) : ordersFault(one));
            }
        }
    }

    private static void spelling() {
        sentence("FAULT: the first TOKEN that can't go on there");
        misspelt("costs tenant+key-reads*far/time%mood if not 1=2 and (1=1 or 2=2);bars", true);
        misspelt("bars if [far]<key or reads>tenant and not mood=time;costs 1 if 1=1", true);
        misspelt("read time+done+latest+cold 1+deep 2 by 0 times 2 if not 1=1 and 1=1 or 1=2;loop 1 to 2 by 1 times 1 if 1=2", false);
        misspelt("drop done by time if 1=2;pass times 3 if latest=7;pass if cold 3=5;loop deep 0 to done by 3;read 1 by 1", false);
        for (String name : new String[] {"lru", "mru", "fifo", "lfu", "min"}) {
            for (int i = 0; i < name.length(); i++) {
                due(0, policyFault(name.substring(0, i) + "x" + name.substring(i + 1)));
                due(0, policyFault(name.substring(0, i) + name.substring(i + 1)));
                due(0, policyFault(name.substring(0, i) + name.charAt(i) + name.substring(i)));
            }
        }
    }

    // BROKEN.

    private static void broken() {
        sentence("Beyond 1,000,000,000 either way, or divided by 0 (/ cut towards 0, % what is left then), a SUM, a TEST is BROKEN");
        String most = "1000*1000*1000";
        due(99, cost("costs " + most));
        due(1, cost("costs " + most + "+1"));
        due(99, cost("costs " + most + "+0"));
        due(1, cost("costs " + most + "+1-1"));
        due(0, cost("costs 0-" + most));
        due(1, cost("costs 0-" + most + "-1"));
        due(1, cost("costs 0-" + most + "-1+1000"));
        due(1, cost("costs " + most + "*2"));
        due(1, cost("costs " + most + "*1000"));
        due(1, cost("costs " + most + "*" + most));
        due(1, cost("costs [0-" + most + "]*2"));
        due(0, cost("costs [0-" + most + "]*1"));
        due(1, cost("costs " + most + "/0"));
        due(1, cost("costs 5/0"));
        due(1, cost("costs 5%0"));
        due(1, cost("costs 0/0"));
        due(1, cost("costs 5/[1-1]"));
        due(1, cost("costs 0*[5/0]"));
        due(1, test(most + "=" + most));
        due(-1, test(most + "+1>0"));
        due(-1, test("0<" + most + "+1"));
        due(-1, test("0-" + most + "-1<0"));
        due(-1, test("1/0=1"));
        due(-1, test("1=1%0"));
        due(-1, test("not 1/0=1"));
        due(-1, test("(1/0=1)"));
        sentence("(/ cut towards 0, % what is left then)");
        due(7, cost("costs 10+[0-7]/2"));
        due(7, cost("costs 10+7/[0-2]"));
        due(13, cost("costs 10+[0-7]/[0-2]"));
        due(9, cost("costs 10+[0-7]%2"));
        due(11, cost("costs 10+7%[0-2]"));
        due(9, cost("costs 10+[0-7]%[0-2]"));
        due(0, cost("costs 1/2"));
        due(0, cost("costs 6%3"));
    }

    private static void onlyIfItMatters() {
        sentence("(\"or\", \"and\" ask what stands behind only if it can still matter)");
        due(1, test("1=1 or 1/0=1"));
        due(-1, test("1=2 or 1/0=1"));
        due(0, test("1=2 and 1/0=1"));
        due(-1, test("1=1 and 1/0=1"));
        due(-1, test("1/0=1 or 1=1"));
        due(-1, test("1/0=1 and 1=2"));
        due(1, test("1=2 or 1=1 or 1/0=1"));
        due(0, test("1=1 and 1=2 and 1/0=1"));
        due(1, test("1=2 and 1/0=1 or 1=1"));
        due(1, test("1=1 or 1=1 and 1/0=1"));
        due(1, test("1=1 or 1/0=1 and 1=2"));
        due(0, test("not (1=1 or 1/0=1)"));
        due(1, test("(1=2 or 1=1) and (1=1 or 1/0=1)"));
        due(0, test("(1=1 or 1/0=1) and 1=2"));
        due(1, test("1=1 or 1/0=1 or 1/0=1 or 1/0=1"));
        due(0, test("1=2 and 1/0=1 and 1/0=1"));
    }

    // LAWS.

    private static void laws() {
        sentence("LAWS, 6 at most; one is in FORCE (NONE at first: no CLAUSE)");
        MissCurves x = new MissCurves();
        due(-1, x.count(10));
        due(1, x.key(0, 0, 3));
        due(0, x.key(0, 0, 4));
        for (int i = 0; i < 6; i++) {
            due(i, Edges.law(x, "costs " + (10 + i)));
            due(-1, x.count(10));
        }
        due(6, x.count(2));
        for (int i = 0; i < 6; i++) {
            due(10 + i, x.compare(i, 0, 0));
        }
        // Each is itself, whatever was told ahead of it.
        MissCurves z = new MissCurves();
        Edges.law(z, "bars;bars if 1=1;bars" + ";bars".repeat(9));
        Edges.law(z, "costs 3;costs 4 if key=7;costs 5 if key=8");
        Edges.law(z, "bars if key=9");
        Edges.orders(z, "pass times 9");
        Edges.law(z, "costs 6");
        due(3, z.compare(1, 0, 9));
        due(4, z.compare(1, 0, 7));
        due(5, z.compare(1, 0, 8));
        due(6, z.compare(3, 0, 9));
        int[] barred = {1, 0, 0, 0};
        for (int i = 0; i < 4; i++) {
            z.force(i);
            due(barred[i], z.key(0, 7, 4));
            due(i == 0 || i == 2 ? 1 : 0, z.key(0, 9, 4));
        }
        Edges.Setup full = y -> {
            Edges.rich(y);
            for (int i = 2; i < 6; i++) {
                Edges.law(y, "costs 1");
            }
            Edges.policy(y, "  x");
            Edges.tell(y, "bars");
        };
        edges.refusedText(-5, 2, 1, full, MissCurves::law);
        sentence("CLAUSE: (\"costs\" SUM | \"bars\") [\"if\" TEST].");
        due(5, lawFault("bars costs 1"));
        due(4, lawFault("bars=1"));
        due(14, lawFault("bars if key=7 if 1=1"));
        due(0, lawFault("if 1=1"));
    }

    private static void lawWords() {
        sentence("Words: \"tenant\" | \"key\" | \"reads\" | \"far\" | \"time\" | \"mood\".");
        MissCurves x = new MissCurves();
        String[] laws = {"costs tenant", "costs key%100", "costs reads", "costs far", "costs time/10", "costs mood"};
        for (int i = 0; i < 6; i++) {
            due(i, Edges.law(x, laws[i]));
        }
        due(0, x.compare(0, 0, 5));
        due(3, x.compare(0, 3, 5));
        due(0, x.compare(1, 0, 0));
        due(99, x.compare(1, 0, 999));
        x.terms(0, 999);
        x.terms(2, 9);
        due(99, x.compare(4, 0, 0));
        due(9, x.compare(5, 0, 0));
        for (String word : new String[] {"done", "latest", "cold 0", "deep 0", "salt", "losses", "cost"}) {
            due(6, lawFault("costs " + word));
        }
        sentence("(reads: how often it is in the RECORD; far: its place in the STACK, 0 if it is not there; time: TIME), as all is ahead of it");
        due(0, x.compare(2, 0, 7));
        due(0, x.compare(3, 0, 7));
        Edges.orders(x, "read 7 by 0 times 20;read 7 by 0 times 12");
        due(32, x.compare(2, 0, 7));
        x.read(0, 7);
        due(32, x.compare(2, 0, 7));
        x.loop(0, 100, 122);
        due(9, x.compare(2, 0, 7));
        due(24, x.compare(3, 0, 7));
        x.read(0, 123);
        due(0, x.compare(3, 0, 7));
        due(8, x.compare(2, 0, 7));
        due(1, x.compare(3, 0, 123));
        MissCurves y = Edges.under("costs reads*10+far");
        y.read(1, 4);
        due(0, y.of(1, 4));
        y.read(1, 4);
        due(11, y.of(1, 5));
    }

    private static void holds() {
        sentence("A CLAUSE HOLDS, if its \"if\" (if it has one) is so, and neither that nor its SUM is BROKEN.");
        due(8, cost("costs 8"));
        due(8, cost("costs 8 if 1=1"));
        due(1, cost("costs 8 if 1=2"));
        due(1, cost("costs 8 if 1/0=1"));
        due(1, cost("costs 8/0"));
        due(1, cost("costs 8/0 if 1=1"));
        due(5, cost("costs 5;costs 8/0"));
        due(5, cost("costs 5;costs 8 if 1%0=0"));
        sentence("A miss COSTS 0 .. 99 as the last \"costs\" that HOLDS tells (else the nearest), 1 without");
        due(0, cost("costs 0"));
        due(99, cost("costs 99"));
        due(99, cost("costs 100"));
        due(0, cost("costs 0-1"));
        due(98, cost("costs 98"));
        due(1, cost("bars"));
        due(6, cost("costs 5;costs 6"));
        due(5, cost("costs 6;costs 5;bars;costs 9 if key=8"));
        due(0, cost("costs 7;costs 0-1000"));
        sentence("a KEY is BARRED, if \"bars\" HOLDS");
        String[] bars = {"bars", "bars if 1=1", "costs 4;bars;costs 5", "bars if 1=2;bars", "bars;bars if 1=2"};
        for (String law : bars) {
            due(1, Edges.under(law).key(0, 0, 4));
        }
        for (String law : new String[] {"bars if 1=2", "bars if 1/0=1", "costs 4", "bars if key=1"}) {
            due(0, Edges.under(law).key(0, 0, 4));
        }
    }

    // ORDERS.

    private static void orderTimes() {
        sentence("TIMES: a NUMBER 1 .. 20.");
        due(1, Edges.orders(new MissCurves(), "pass times 1"));
        due(20, Edges.orders(new MissCurves(), "pass times 20"));
        due(20, Edges.orders(new MissCurves(), "pass times 020"));
        edges.refusedOrders(11, "pass times 0");
        edges.refusedOrders(11, "pass times 21");
        due(11, ordersFault("pass times 1000"));
        due(11, ordersFault("pass times 4294967297"));
        due(10, ordersFault("pass times"));
        due(11, ordersFault("pass times [1]"));
        due(11, ordersFault("pass times time"));
        due(12, ordersFault("pass times 1+1"));
        due(13, ordersFault("pass times 2 times 2"));
        due(12, ordersFault("pass if 1=1 times 2"));
        sentence("(T: a NUMBER 0 .. 3)");
        for (String word : new String[] {"cold", "deep"}) {
            due(-1, ordersFault("read " + word + " 0 by 0"));
            due(-1, ordersFault("read " + word + "3 by 0"));
            due(10, ordersFault("read " + word + " 4 by 0"));
            due(10, ordersFault("read " + word + " 1000 by 0"));
            due(9, ordersFault("read " + word + "4 by 0"));
            due(10, ordersFault("read " + word + " by 0"));
            due(10, ordersFault("read " + word + " time by 0"));
            due(10, ordersFault("read " + word + " [0] by 0"));
            due(9, ordersFault("read " + word));
        }
        sentence("T, TIMES aside, NUMBERS and words count as PARTS.");
        String fifty = "deep 0" + "+cold 1".repeat(3) + "+1".repeat(46);
        due(-1, ordersFault("pass times 9 if " + fifty.substring(0, fifty.length() - 2) + "=cold 3"));
        int behind = ("pass times 9 if " + fifty + "=").length();
        due(behind, ordersFault("pass times 9 if " + fifty + "=cold 3"));
    }

    private static void eachTime() {
        sentence("Run CLAUSE by CLAUSE, each as often as TIMES tell (once without); each time its \"if\" is asked (not run, if it is not so or BROKEN), then its SUMS from the left.");
        MissCurves x = new MissCurves();
        due(1, Edges.orders(x, "read 5 by 0 times 20 if deep 0=0"));
        due(1, x.of(0, 3));
        due(3, Edges.orders(x, "read 9 by 1 times 20 if done<3"));
        due(3, x.of(1, 3));
        due(0, Edges.orders(x, "read 9 by 1 times 20 if 1/0=1"));
        due(0, Edges.orders(x, "read 1/0 by 1 if 1=2"));
        due(0, Edges.orders(x, "read 1/0 by 1 if 1/0=1"));
        due(0, x.status());
        due(-1, x.stopped());
        due(4, Edges.orders(x, "read done by 2 times 4"));
        due(3, x.top(2, 1));
        due(0, x.top(2, 4));
        due(240, Edges.orders(x, "read 1 by 3 times 20;".repeat(11) + "read 1 by 3 times 20"));
        due(239, x.of(3, 5));
        due(1, Edges.orders(x, "pass"));
    }

    private static void orderWords() {
        sentence("done: how many were run in this TEXT, latest: what the latest read or loop in it told (-1: none)");
        due(1, Edges.orders(new MissCurves(), "pass if latest=0-1"));
        due(0, Edges.orders(new MissCurves(), "pass if done>0"));
        due(2, Edges.orders(new MissCurves(), "read 5 by 0;pass if latest=0 and done=1"));
        due(3, Edges.orders(new MissCurves(), "read 5 by 0;read 5 by 0;pass if latest=1"));
        due(2, Edges.orders(new MissCurves(), "loop 0 to 31 by 0;pass if latest=32"));
        due(4, Edges.orders(new MissCurves(), "loop 0 to 3 by 0;drop 0 by 0;pass;pass if latest=4 and done=3"));
        // Neither a drop (of place 3) nor a pass (COSTS are 2 then) tells it.
        due(3, Edges.orders(new MissCurves(), "loop 0 to 3 by 0;drop 1 by 0;pass if latest=4"));
        due(3, Edges.orders(new MissCurves(), "loop 0 to 3 by 0;pass;pass if latest=4"));
        due(4, Edges.orders(new MissCurves(), "loop 0 to 3 by 0;read 1 by 0;drop 2 by 0;pass if latest=3"));
        due(2, Edges.orders(new MissCurves(), "pass;pass if latest=0-1"));
        MissCurves x = Edges.reads(0, 1, 1);
        due(0, Edges.orders(x, "pass if latest>0-1 or done>0"));
        sentence("cold: COSTS of COLD reads, deep: how many KEYS are in a STACK");
        MissCurves y = new MissCurves();
        y.loop(3, 0, 31);
        y.read(0, 7);
        due(1, Edges.orders(y, "pass if cold 3=32 and deep 3=24 and cold 0=1 and deep 0=1 and cold 1=0 and deep 2=0"));
        due(1, y.count(11));
        due(1, Edges.orders(y, "pass if time=1"));
        sentence("Words: \"time\" | \"done\" | \"latest\" | \"cold\" T | \"deep\" T");
        for (String word : new String[] {"key", "tenant", "reads", "far", "mood", "times", "by"}) {
            due(5, ordersFault("read " + word + " by 0"));
        }
        due(8, lawFault("bars if done=0"));
    }

    private static void cannotBe() {
        sentence("One that can't be (a BROKEN SUM, as read(), loop(), drop(), pass() are REFUSED) ends it: all is as it was ahead of it.");
        String[] bad = {"read 1/0 by 0", "read 0 by 1/0", "read 1000*1000*1000+1 by 0", "read 1000 by 0", "read 0-1 by 0", "read 0 by 4", "read 0 by 0-1",
            "read 1000*1000*1000 by 0", "read 0 by 1000*1000*1000", "loop 5 to 4 by 0", "loop 0 to 32 by 0", "loop 0-1 to 3 by 0", "loop 990 to 1000 by 0",
            "loop 1/0 to 5 by 0", "loop 0 to 5/0 by 0", "loop 0 to 5 by 5%0", "loop 0 to 5 by 4", "drop 999 by 0", "drop 1000 by 0", "drop 3 by 4",
            "drop 3 by 0-1", "drop 3/0 by 0", "drop 3 by 3/0"};
        for (String one : bad) {
            edges.stoppedOrders(0, one);
            edges.stoppedOrders(3, "pass;loop 100 to 131 by 1;drop 131 by 1;" + one + ";pass");
        }
        edges.stoppedOrders(11, "read 1 by 0;".repeat(11) + "read 1 by 4");
        edges.stoppedOrders(1, "pass times 20;read 6-done/21 by 4-done%21 times 20");
        // TIME is 999 when the second CLAUSE has its turn.
        Edges.Setup late = x -> {
            Edges.rich(x);
            x.terms(0, 998);
            x.read(0, 1);
            Edges.tell(x, "read 2 by 0;pass;pass");
        };
        edges.refusedText(-3, -1, 2, late, MissCurves::orders);
        // A KEY that was dropped can't be dropped a second time.
        edges.stoppedOrders(1, "read 40 by 2;drop 40 by 2 times 2");
        // More than 16 were run ahead of it: what can be undone is as it was, too.
        edges.stoppedOrders(1, "read 40 by 2 times 20;read 40 by 9");
    }

    public static void main(String[] args) {
        tape();
        tokens();
        policies();
        clauses();
        tests();
        sums();
        parts();
        brackets();
        faults();
        spelling();
        broken();
        onlyIfItMatters();
        laws();
        lawWords();
        holds();
        orderTimes();
        eachTime();
        orderWords();
        cannotBe();
        System.exit(edges.end("Terms II"));
    }
}
