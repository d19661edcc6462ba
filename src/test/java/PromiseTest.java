/** The promises one by one, with answers reckoned by hand: ordinary inputs, edges, wrong inputs. */
public final class PromiseTest {
    private static final int UNKNOWN = -1, OUTSIDE = -2, FULL = -4, NONE = -9;
    private static final long LOST = Long.MIN_VALUE;
    private static final int LEAST = Integer.MIN_VALUE, GREATEST = Integer.MAX_VALUE;

    private static int checks = 0;
    private static int wrong = 0;
    private static int promise = 0;

    private static void due(String call, long got, long want) {
        checks++;
        if (got != want) {
            wrong++;
            System.out.println("promise " + promise + ": " + call + " answered " + got + ", due is " + want);
        }
    }

    private static void due(String call, String got, String want) {
        checks++;
        if (!got.equals(want)) {
            wrong++;
            System.out.println("promise " + promise + ": " + call + " answered '" + got + "', due is '" + want + "'");
        }
    }

    private static void dueFraction(String call, long upper, long lower, long wantUpper, long wantLower) {
        due(call + " upper", upper, wantUpper);
        due(call + " lower", lower, wantLower);
    }

    private static void keyIn(ToldChances x, String text) {
        for (int i = 0; i < text.length(); i++) {
            x.key(text.charAt(i));
        }
    }

    private static int lineOf(ToldChances x, String text) {
        x.wipe();
        keyIn(x, text);
        return x.line();
    }

    private static int ruleOf(ToldChances x, String text) {
        x.wipe();
        keyIn(x, text);
        return x.rule();
    }

    private static String reportOf(ToldChances x, int t) {
        StringBuilder text = new StringBuilder();
        int length = x.report(t, -1);
        for (int i = 0; i < length; i++) {
            text.append((char) x.report(t, i));
        }
        return text.toString();
    }

    /** Teller t tells chances for events 0, 1, .., and they come as the signs y and n say. */
    private static void fill(ToldChances x, int t, String came, int... chances) {
        for (int e = 0; e < chances.length; e++) {
            x.tell(t, e, chances[e]);
            if (came.charAt(e) == 'y') {
                x.yes(e);
            } else {
                x.no(e);
            }
        }
    }

    private static void newObject() {
        promise = 1;
        ToldChances x = new ToldChances();
        for (int e = 0; e < 40; e++) {
            due("came", x.came(e), 0);
            for (int t = 0; t <= 4; t++) {
                due("told", x.told(t, e), NONE);
            }
        }
        for (int what = 0; what <= 5; what++) {
            due("many(" + what + ")", x.many(what), 0);
        }
        due("report", reportOf(x, 4), "T4 square - ");
        due("bin", x.bin(0, 0, 4), 100);
        due("bin", x.bin(0, 1, 4), UNKNOWN);
        for (int t = 0; t < 4; t++) {
            due("weigh", x.weigh(t, 5), 1);
        }
        ToldChances y = new ToldChances();
        y.tell(0, 0, 7);
        due("another object", x.told(0, 0), NONE);
    }

    private static void tellAndDrop() {
        promise = 2;
        ToldChances x = new ToldChances();
        due("tell", x.tell(0, 0, 0), NONE);
        due("tell", x.tell(0, 0, 100), 0);
        due("tell", x.tell(0, 0, 100), 100);
        due("tell", x.tell(3, 39, 55), NONE);
        due("tell of no such", x.tell(4, 0, 1), UNKNOWN);
        due("tell of no such", x.tell(-1, 0, 1), UNKNOWN);
        due("tell of no such", x.tell(LEAST, 0, 1), UNKNOWN);
        due("tell of no such", x.tell(0, -1, 1), UNKNOWN);
        due("tell of no such", x.tell(0, 40, 1), UNKNOWN);
        due("tell of no such", x.tell(0, GREATEST, 101), UNKNOWN);
        due("tell outside", x.tell(0, 0, 101), OUTSIDE);
        due("tell outside", x.tell(0, 0, -1), OUTSIDE);
        due("tell outside", x.tell(0, 0, -9), OUTSIDE);
        due("told", x.told(0, 0), 100);
        due("told of the neighbours", x.told(1, 0), NONE);
        due("told of the neighbours", x.told(0, 39), NONE);
        promise = 3;
        due("drop of no such", x.drop(4, 0), UNKNOWN);
        due("drop of no such", x.drop(-1, 0), UNKNOWN);
        due("drop of no such", x.drop(0, 40), UNKNOWN);
        due("drop of no such", x.drop(0, -1), UNKNOWN);
        due("drop", x.drop(0, 0), 100);
        due("drop", x.drop(0, 0), NONE);
        due("drop", x.drop(3, 39), 55);
        due("told", x.told(3, 39), NONE);
        due("tell", x.tell(0, 0, 3), NONE);
    }

    private static void whatCame() {
        ToldChances x = new ToldChances();
        for (int from = 0; from < 3; from++) {
            for (int to = 0; to < 3; to++) {
                promise = 4 + from;
                turn(x, 39, from);
                due("what it was", turn(x, 39, to), (from + 1) % 3);
            }
        }
        int[] none = {-1, 40, LEAST, GREATEST};
        for (int e : none) {
            promise = 4;
            due("yes of no such", x.yes(e), UNKNOWN);
            promise = 5;
            due("no of no such", x.no(e), UNKNOWN);
            promise = 6;
            due("open of no such", x.open(e), UNKNOWN);
            promise = 9;
            due("came of no such", x.came(e), UNKNOWN);
        }
        promise = 9;
        x.yes(0);
        x.no(1);
        due("came", x.came(0), 1);
        due("came", x.came(1), 2);
        due("came", x.came(2), 0);
        x.open(0);
        due("came", x.came(0), 0);
    }

    /** Makes an event yes (0), no (1), open (2). */
    private static int turn(ToldChances x, int e, int to) {
        return to == 0 ? x.yes(e) : to == 1 ? x.no(e) : x.open(e);
    }

    private static void weights() {
        promise = 7;
        ToldChances x = new ToldChances();
        due("weigh", x.weigh(0, 0), 1);
        due("weigh", x.weigh(0, 9), 0);
        due("weigh", x.weigh(0, 9), 9);
        due("weigh", x.weigh(3, 2), 1);
        due("weigh outside", x.weigh(0, 10), OUTSIDE);
        due("weigh outside", x.weigh(0, -1), OUTSIDE);
        due("weigh of no such", x.weigh(4, 10), UNKNOWN);
        due("weigh of no such", x.weigh(-1, 1), UNKNOWN);
        due("weigh", x.weigh(0, 1), 9);
    }

    private static void mix() {
        promise = 8;
        ToldChances x = new ToldChances();
        x.tell(0, 5, 10);
        due("told", x.told(4, 5), 10);
        x.tell(1, 5, 11);
        due("a half goes up", x.told(4, 5), 11);
        x.tell(2, 5, 10);
        due("a third goes down", x.told(4, 5), 10);
        x.weigh(1, 9);
        due("119 by 11", x.told(4, 5), 11);
        x.weigh(0, 0);
        x.weigh(1, 0);
        due("those without weight do not count", x.told(4, 5), 10);
        x.weigh(2, 0);
        due("no one has weight", x.told(4, 5), NONE);
        x.tell(3, 5, 0);
        due("a chance of 0 counts", x.told(4, 5), 0);
        x.weigh(2, 1);
        x.tell(2, 5, 1);
        due("a half goes up", x.told(4, 5), 1);
        x.drop(2, 5);
        x.drop(3, 5);
        due("no one with weight tells", x.told(4, 5), NONE);
        due("told of no such", x.told(5, 0), UNKNOWN);
        due("told of no such", x.told(-1, 0), UNKNOWN);
        due("told of no such", x.told(4, 40), UNKNOWN);
        due("told of no such", x.told(4, -1), UNKNOWN);
        x.tell(0, 39, 100);
        x.weigh(0, 9);
        x.tell(1, 39, 100);
        x.weigh(1, 9);
        due("the greatest", x.told(4, 39), 100);
    }

    private static void tape() {
        promise = 10;
        ToldChances x = new ToldChances();
        due("key outside", x.key(-1), OUTSIDE);
        due("key outside", x.key(128), OUTSIDE);
        for (int i = 1; i <= 24; i++) {
            due("key", x.key(i == 1 ? 0 : 127), i);
        }
        due("key on a full tape", x.key(5), FULL);
        due("key outside on a full tape", x.key(128), OUTSIDE);
        due("many", x.many(3), 24);
        promise = 11;
        due("wipe", x.wipe(), 24);
        due("wipe", x.wipe(), 0);
        due("key", x.key(5), 1);
        due("wipe", x.wipe(), 1);
    }

    private static void lines() {
        promise = 12;
        ToldChances x = new ToldChances();
        due("tell", lineOf(x, "tell 0 3 70"), 991);
        due("the tape is empty", x.many(3), 0);
        due("told", x.told(0, 3), 70);
        due("tell", lineOf(x, "tell 000 003 100"), 1070);
        due("tell", lineOf(x, "tell 3 39 0"), 991);
        due("told", x.told(3, 39), 0);
        due("drop", lineOf(x, "drop 0 3"), 1100);
        due("drop", lineOf(x, "drop 0 03"), 991);
        due("yes", lineOf(x, "yes 39"), 1000);
        due("no", lineOf(x, "no 039"), 1001);
        due("open", lineOf(x, "open 39"), 1002);
        due("came", x.came(39), 0);
        due("weigh", lineOf(x, "weigh 3 009"), 1001);
        due("weigh", lineOf(x, "weigh 03 0"), 1009);
        due("weigh", x.weigh(3, 1), 0);
    }

    private static void faults() {
        promise = 12;
        Object[][] faults = {
            {"", 0}, {"x", 0}, {" yes 1", 0}, {"YES 1", 0}, {"t", 1}, {"tx", 1}, {"tell", 4}, {"tells", 4},
            {"tell ", 5}, {"tell  0", 5}, {"tell x", 5}, {"tell -", 5}, {"tell 4", 5}, {"tell 04", 6},
            {"tell 004", 7}, {"tell 0000", 8}, {"tell 10", 6}, {"tell 3", 6}, {"tell 3x", 6}, {"tell 3 ", 7},
            {"tell 3 39", 9}, {"tell 3 40", 8}, {"tell 3 390", 9}, {"tell 3 039 ", 11}, {"tell 3 039 101", 13},
            {"tell 3 039 100 ", 14}, {"tell 3 039 1000", 14}, {"tell 3 039 99 9", 13}, {"drop", 4}, {"drop 1", 6},
            {"drop 4", 5}, {"drop 1 2 3", 8},
            {"drop 1 40", 8}, {"dr op", 2}, {"y", 1}, {"yes", 3}, {"yes ", 4}, {"yes 4 ", 5},
            {"yes 40", 5}, {"yes 040", 6}, {"yes 0039", 7}, {"no", 2}, {"nO", 1}, {"no 99", 4}, {"no 40", 4},
            {"noo", 2}, {"open 40", 6}, {"open 3x", 6}, {"ope", 3}, {"weigh 3", 7}, {"weigh 4 1", 6},
            {"weigh 3 10", 9}, {"weigh 3 009 ", 11},
            {"weigh 3 0009", 11}, {"line", 0}, {"yes 1\n", 5}, {"yes\t1", 3}, {"yes 1:", 5}, {"yes 1/", 5},
        };
        for (Object[] fault : faults) {
            String text = (String) fault[0];
            ToldChances x = new ToldChances();
            due("line of '" + text + "'", lineOf(x, text), -100 - (Integer) fault[1]);
            due("the tape stays after '" + text + "'", x.wipe(), text.length());
            due("nothing was done", x.many(0) + x.many(1) + x.many(2), 0);
        }
        ToldChances x = new ToldChances();
        for (int i = 0; i < 24; i++) {
            x.key('t');
        }
        due("line of a full tape", x.line(), -101);
        x.wipe();
        keyIn(x, "ye");
        due("line", x.line(), -102);
        keyIn(x, "s 7");
        due("the line goes on", x.line(), 1000);
        due("came", x.came(7), 1);
    }

    private static void rules() {
        promise = 13;
        ToldChances x = new ToldChances();
        String[] words = {"square", "line", "edge", "cube"};
        for (int i = 3; i >= 0; i--) {
            due("rule", ruleOf(x, words[i]), i);
            due("the tape is empty", x.many(3), 0);
            due("report", reportOf(x, 0), "T0 " + words[i] + " - ");
        }
        ruleOf(x, "edge");
        String[] none = {"", "squar", "squares", "Line", "line ", " line", "cub", "edge\0", "yes 1", "cuba"};
        for (String word : none) {
            due("rule of '" + word + "'", ruleOf(x, word), UNKNOWN);
            due("the tape stays", x.many(3), word.length());
        }
        x.wipe();
        due("the rule stays", reportOf(x, 0), "T0 edge - ");
    }

    private static void misses() {
        promise = 14;
        ToldChances x = new ToldChances();
        int[] chances = {0, 30, 49, 50, 51, 100};
        int[][] asNo = {
            {0, 900, 2401, 2500, 2601, 10000},
            {0, 30, 49, 50, 51, 100},
            {0, 0, 0, 50, 100, 100},
            {0, 27000, 117649, 125000, 132651, 1000000},
        };
        String[] words = {"square", "line", "edge", "cube"};
        for (int r = 0; r < 4; r++) {
            ruleOf(x, words[r]);
            for (int i = 0; i < chances.length; i++) {
                due(words[r] + " no", x.miss(chances[i], 0), asNo[r][i]);
                due(words[r] + " yes", x.miss(100 - chances[i], 1), asNo[r][i]);
            }
        }
        due("miss outside", x.miss(-1, 0), OUTSIDE);
        due("miss outside", x.miss(101, 1), OUTSIDE);
        due("miss outside", x.miss(50, 2), OUTSIDE);
        due("miss outside", x.miss(50, -1), OUTSIDE);
        due("miss outside", x.miss(LEAST, GREATEST), OUTSIDE);
    }

    private static void scores() {
        promise = 15;
        ToldChances x = new ToldChances();
        fill(x, 0, "nyny", 10, 30, 60, 80);
        x.tell(0, 20, 99);
        dueFraction("square", x.score(0, 0), x.score(0, 1), 2250, 1);
        ruleOf(x, "line");
        dueFraction("line", x.score(0, 0), x.score(0, 1), 40, 1);
        x.open(3);
        dueFraction("line of three", x.score(0, 0), x.score(0, 1), 140, 3);
        ruleOf(x, "edge");
        dueFraction("edge", x.score(0, 0), x.score(0, 1), 200, 3);
        ruleOf(x, "cube");
        dueFraction("cube", x.score(0, 0), x.score(0, 1), 560000, 3);
        x.weigh(0, 0);
        due("the mix has no cases", x.score(4, 0), LOST);
        due("no cases", x.score(1, 0), LOST);
        due("no such", x.score(5, 0), LOST);
        due("no such", x.score(-1, 0), LOST);
        due("outside", x.score(0, 2), LOST);
        due("outside", x.score(0, -1), LOST);
        ToldChances y = new ToldChances();
        fill(y, 2, "yn", 100, 0);
        dueFraction("never wrong", y.score(2, 0), y.score(2, 1), 0, 1);
        dueFraction("the mix", y.score(4, 0), y.score(4, 1), 0, 1);
    }

    private static void ranks() {
        promise = 16;
        ToldChances x = new ToldChances();
        due("no one", x.rank(0), UNKNOWN);
        fill(x, 3, "yn", 80, 20);
        x.tell(1, 0, 80);
        x.tell(0, 1, 50);
        x.weigh(3, 0);
        // Teller 3 and 1 miss by 400, 0 by 2500; the mix tells 80 and 50 and misses by 1450.
        due("rank", x.rank(0), 1);
        due("rank", x.rank(1), 3);
        due("rank", x.rank(2), 4);
        due("rank", x.rank(3), 0);
        due("rank", x.rank(4), UNKNOWN);
        due("rank", x.rank(-1), UNKNOWN);
        due("rank", x.rank(LEAST), UNKNOWN);
        ToldChances y = new ToldChances();
        fill(y, 0, "yn", 90, 10);
        fill(y, 1, "yn", 80, 20);
        due("teller 0 is ahead", y.rank(0), 0);
        due("the mix is next", y.rank(1), 4);
        due("teller 1 is last", y.rank(2), 1);
        x.tell(2, 0, 80);
        x.weigh(1, 0);
        x.weigh(2, 0);
        x.weigh(0, 0);
        due("rank", x.rank(3), 0);
        due("the mix is left out", x.rank(4), UNKNOWN);
    }

    private static void lures() {
        promise = 17;
        ToldChances x = new ToldChances();
        for (int b = 0; b <= 100; b++) {
            due("square", x.lure(b), b);
        }
        due("outside", x.lure(-1), OUTSIDE);
        due("outside", x.lure(101), OUTSIDE);
        ruleOf(x, "line");
        for (int b = 0; b <= 100; b++) {
            due("line", x.lure(b), b <= 50 ? 0 : 100);
        }
        ruleOf(x, "edge");
        for (int b = 0; b <= 100; b++) {
            due("edge", x.lure(b), b <= 50 ? 0 : 51);
        }
        ruleOf(x, "cube");
        // The best is p by 100 less p as the root of b by 100 less b.
        due("cube", x.lure(0), 0);
        due("cube", x.lure(10), 25);
        due("cube", x.lure(20), 33);
        due("cube", x.lure(50), 50);
        due("cube", x.lure(90), 75);
        due("cube", x.lure(100), 100);
        promise = 18;
        due("cube", x.honest(), 5);
        due("cube again", x.honest(), 5);
        ruleOf(x, "line");
        due("line", x.honest(), 3);
        ruleOf(x, "edge");
        due("edge", x.honest(), 101);
        ruleOf(x, "square");
        due("square", x.honest(), 101);
        ruleOf(x, "cube");
        due("cube", x.honest(), 5);
    }

    private static void cuts() {
        promise = 19;
        ToldChances x = new ToldChances();
        due("outside", x.cut(0), OUTSIDE);
        due("outside", x.cut(101), OUTSIDE);
        due("outside", x.cut(-5), OUTSIDE);
        int[] cuts = {50, 1, 100, 20, 80, 60, 40, 30, 70};
        for (int i = 0; i < 9; i++) {
            due("cut", x.cut(cuts[i]), i + 1);
        }
        due("full", x.cut(10), FULL);
        due("outside when full", x.cut(101), OUTSIDE);
        due("cut is no more", x.cut(50), 8);
        due("cut", x.cut(10), 9);
        due("full", x.cut(50), FULL);
        due("many", x.many(4), 9);
        promise = 20;
        int[] least = {0, 1, 10, 20, 30, 40, 60, 70, 80, 100};
        for (int k = 0; k < 10; k++) {
            due("least of " + k, x.bin(0, k, 3), least[k]);
            due("greatest of " + k, x.bin(4, k, 4), k == 9 ? 100 : least[k + 1] - 1);
        }
        promise = 19;
        for (int i = 1; i < 10; i++) {
            due("cut is no more", x.cut(least[i]), 9 - i);
        }
    }

    private static void bins() {
        promise = 20;
        ToldChances x = new ToldChances();
        fill(x, 0, "nynyyn", 19, 20, 49, 50, 100, 0);
        x.tell(0, 30, 25);
        x.cut(50);
        x.cut(20);
        int[][] rows = {{2, 0, 19}, {2, 1, 69}, {2, 2, 150}};
        for (int k = 0; k < 3; k++) {
            for (int what = 0; what < 3; what++) {
                due("bin(0, " + k + ", " + what + ")", x.bin(0, k, what), rows[k][what]);
                due("bin(4, " + k + ", " + what + ")", x.bin(4, k, what), rows[k][what]);
                due("bin(1, " + k + ", " + what + ")", x.bin(1, k, what), 0);
            }
        }
        due("no such", x.bin(5, 0, 0), UNKNOWN);
        due("no such", x.bin(-1, 0, 0), UNKNOWN);
        due("no such", x.bin(0, 3, 0), UNKNOWN);
        due("no such", x.bin(0, -1, 5), UNKNOWN);
        due("no such", x.bin(0, GREATEST, 3), UNKNOWN);
        due("outside", x.bin(0, 0, 5), OUTSIDE);
        due("outside", x.bin(0, 2, -1), OUTSIDE);
    }

    private static void splits() {
        promise = 21;
        ToldChances x = new ToldChances();
        fill(x, 0, "nyny", 10, 30, 60, 80);
        x.cut(50);
        long[][] one = {{1, 4}, {0, 1}, {13, 200}, {1, 100}, {1, 10}, {9, 40}};
        dueParts(x, 0, one);
        dueParts(x, 4, one);
        x.cut(20);
        // The lowest bin is cut in two: (0.1, no), (0.3, yes), and the upper one stays.
        long[][] two = {{1, 4}, {1, 8}, {29, 200}, {1, 200}, {1, 20}, {9, 40}};
        dueParts(x, 0, two);
        ToldChances y = new ToldChances();
        fill(y, 1, "ny", 90, 10);
        long[][] askew = {{1, 4}, {0, 1}, {0, 1}, {4, 25}, {-2, 5}, {81, 100}};
        dueParts(y, 1, askew);
        due("no cases", y.split(0, 0, 0), LOST);
        due("no such", y.split(5, 0, 0), LOST);
        due("no such", y.split(-1, 0, 0), LOST);
        due("outside", y.split(1, 6, 0), LOST);
        due("outside", y.split(1, -1, 0), LOST);
        due("outside", y.split(1, 0, 2), LOST);
        due("outside", y.split(1, 0, -1), LOST);
        ToldChances z = new ToldChances();
        fill(z, 3, "yyy", 100, 100, 100);
        long[][] sure = {{0, 1}, {0, 1}, {0, 1}, {0, 1}, {0, 1}, {0, 1}};
        dueParts(z, 3, sure);
    }

    private static void dueParts(ToldChances x, int t, long[][] want) {
        for (int part = 0; part < 6; part++) {
            dueFraction("part " + part, x.split(t, part, 0), x.split(t, part, 1), want[part][0], want[part][1]);
        }
    }

    private static void joins() {
        promise = 22;
        ToldChances x = new ToldChances();
        fill(x, 0, "nyny", 10, 30, 60, 80);
        due("no next bin", x.joined(0, 0, 0), LOST);
        x.cut(20);
        x.cut(50);
        x.cut(90);
        dueFraction("join 0", x.joined(0, 0, 0), x.joined(0, 0, 1), 1, 8);
        dueFraction("join 1", x.joined(0, 1, 0), x.joined(0, 1, 1), 1, 24);
        dueFraction("join with an empty one", x.joined(0, 2, 0), x.joined(0, 2, 1), 0, 1);
        dueFraction("join of the mix", x.joined(4, 1, 0), x.joined(4, 1, 1), 1, 24);
        due("no next bin", x.joined(0, 3, 0), LOST);
        due("no such", x.joined(0, 4, 0), LOST);
        due("no such", x.joined(0, -1, 0), LOST);
        due("no such", x.joined(5, 0, 0), LOST);
        due("no such", x.joined(-1, 0, 0), LOST);
        due("outside", x.joined(0, 0, 2), LOST);
        due("outside", x.joined(0, 0, -1), LOST);
        due("no cases", x.joined(1, 0, 0), LOST);
    }

    private static void areas() {
        promise = 23;
        ToldChances x = new ToldChances();
        fill(x, 0, "nyny", 10, 30, 60, 80);
        dueFraction("area", x.area(0, 0), x.area(0, 1), 3, 4);
        x.tell(0, 1, 60);
        dueFraction("half for the same", x.area(0, 0), x.area(0, 1), 7, 8);
        x.tell(0, 1, 0);
        x.tell(0, 3, 0);
        dueFraction("all wrong", x.area(4, 0), x.area(4, 1), 0, 1);
        x.tell(0, 0, 0);
        x.tell(0, 2, 0);
        dueFraction("all the same", x.area(0, 0), x.area(0, 1), 1, 2);
        ToldChances y = new ToldChances();
        fill(y, 2, "ynn", 50, 40, 60);
        dueFraction("the first one came", y.area(2, 0), y.area(2, 1), 1, 2);
        y.tell(2, 2, 50);
        dueFraction("the first one came", y.area(2, 0), y.area(2, 1), 3, 4);
        due("no such", x.area(5, 0), LOST);
        due("no such", x.area(-1, 0), LOST);
        due("outside", x.area(0, 2), LOST);
        due("outside", x.area(0, -1), LOST);
        due("no cases", x.area(1, 0), LOST);
        fill(x, 1, "yy", 5, 6);
        x.open(2);
        x.open(3);
        due("no NO", x.area(1, 0), LOST);
        fill(x, 1, "nn", 5, 6);
        due("no YES", x.area(1, 1), LOST);
    }

    private static void poolRows() {
        promise = 24;
        ToldChances x = new ToldChances();
        due("no cases", x.pools(0), 0);
        due("no such", x.pools(5), UNKNOWN);
        due("no such", x.pools(-1), UNKNOWN);
        // By chance: 0 n, 10 y, 20 n, 20 y, 40 n, 70 y, 80 y, 100 n y: 0; 10 to 40 (2 of 4); 70 to 100 (3 of 4).
        fill(x, 0, "nyynynyny", 0, 80, 10, 20, 20, 40, 70, 100, 100);
        due("pools", x.pools(0), 3);
        due("pools of the mix", x.pools(4), 3);
        promise = 25;
        int[][] rows = {{0, 0, 1, 0}, {10, 40, 4, 2}, {70, 100, 4, 3}};
        for (int k = 0; k < 3; k++) {
            for (int what = 0; what < 4; what++) {
                due("pool(0, " + k + ", " + what + ")", x.pool(0, k, what), rows[k][what]);
            }
        }
        due("no such", x.pool(0, 3, 0), UNKNOWN);
        due("no such", x.pool(0, -1, 4), UNKNOWN);
        due("no such", x.pool(5, 0, 0), UNKNOWN);
        due("no such", x.pool(-1, 0, 0), UNKNOWN);
        due("no such", x.pool(1, 0, 0), UNKNOWN);
        due("outside", x.pool(0, 0, 4), OUTSIDE);
        due("outside", x.pool(0, 2, -1), OUTSIDE);
        promise = 26;
        // 0 and 1 and 3/4, by 9.
        dueFraction("flat", x.flat(0, 0), x.flat(0, 1), 7, 36);
        due("no cases", x.flat(1, 0), LOST);
        due("no such", x.flat(5, 0), LOST);
        due("no such", x.flat(-1, 0), LOST);
        due("outside", x.flat(0, 2), LOST);
        due("outside", x.flat(0, -1), LOST);
        promise = 24;
        ToldChances y = new ToldChances();
        fill(y, 2, "nynyyyy", 10, 10, 20, 20, 30, 40, 50);
        due("the same share is one pool", y.pools(2), 2);
        due("the first one ends", y.pool(2, 0, 1), 20);
        due("the second one begins", y.pool(2, 1, 0), 30);
        ToldChances z = new ToldChances();
        for (int e = 0; e < 40; e++) {
            z.tell(0, e, 2 * e);
            if (e < 20) {
                z.yes(e);
            } else {
                z.no(e);
            }
        }
        due("all in one", z.pools(0), 1);
        due("all in one", z.pool(0, 0, 2), 40);
        dueFraction("all in one", z.flat(0, 0), z.flat(0, 1), 1, 4);
    }

    private static void whoWasBetter() {
        promise = 27;
        ToldChances x = new ToldChances();
        fill(x, 0, "yynny", 80, 70, 40, 30, 51);
        fill(x, 1, "yynn", 60, 70, 30, 20);
        x.tell(1, 9, 5);
        x.tell(0, 9, 5);
        int[] wants = {4, 1, 2, 1};
        int[] edgeWants = {4, 0, 0, 4};
        int[] turned = {0, 2, 1, 3};
        for (int what = 0; what < 4; what++) {
            due("better(0, 1, " + what + ")", x.better(0, 1, what), wants[what]);
            due("better(1, 0, " + what + ")", x.better(1, 0, turned[what]), wants[what]);
        }
        due("with oneself", x.better(0, 0, 3), 5);
        due("no such", x.better(5, 0, 0), UNKNOWN);
        due("no such", x.better(0, 5, 4), UNKNOWN);
        due("no such", x.better(-1, 0, 0), UNKNOWN);
        due("no such", x.better(0, -1, 0), UNKNOWN);
        due("outside", x.better(0, 1, 4), OUTSIDE);
        due("outside", x.better(0, 1, -1), OUTSIDE);
        due("nothing in common", x.better(0, 2, 0), 0);
        ruleOf(x, "edge");
        for (int what = 0; what < 4; what++) {
            due("edge: better(0, 1, " + what + ")", x.better(0, 1, what), edgeWants[what]);
        }
    }

    private static void lucks() {
        promise = 28;
        ToldChances x = new ToldChances();
        dueFraction("without events", x.luck(0, 1, 0), x.luck(0, 1, 1), 1, 1);
        for (int e = 0; e < 40; e++) {
            x.yes(e);
            x.tell(0, e, 60);
            x.tell(1, e, 50);
        }
        dueFraction("40 of 40", x.luck(0, 1, 0), x.luck(0, 1, 1), 1, 1L << 40);
        dueFraction("40 of 40", x.luck(1, 0, 0), x.luck(1, 0, 1), 1, 1L << 40);
        dueFraction("against oneself", x.luck(0, 0, 0), x.luck(0, 0, 1), 1, 1);
        for (int e = 0; e < 20; e++) {
            x.no(e);
        }
        // Half of all ways and half of those with 20 heads: 137846528820 of 2 to the 40.
        dueFraction("20 of 40", x.luck(0, 1, 0), x.luck(0, 1, 1), ((1L << 40) + 137846528820L) / 4, 1L << 39);
        for (int e = 3; e < 40; e++) {
            x.drop(1, e);
        }
        dueFraction("3 of 3", x.luck(0, 1, 0), x.luck(0, 1, 1), 1, 8);
        x.yes(0);
        dueFraction("2 of 3", x.luck(0, 1, 0), x.luck(0, 1, 1), 1, 2);
        x.tell(1, 0, 60);
        dueFraction("2 of 2", x.luck(0, 1, 0), x.luck(0, 1, 1), 1, 4);
        ruleOf(x, "edge");
        x.tell(1, 1, 51);
        dueFraction("1 of 1 by edge", x.luck(0, 1, 0), x.luck(0, 1, 1), 1, 2);
        due("no such", x.luck(5, 0, 0), LOST);
        due("no such", x.luck(0, 5, 0), LOST);
        due("no such", x.luck(-1, 0, 0), LOST);
        due("no such", x.luck(0, -1, 0), LOST);
        due("outside", x.luck(0, 1, 2), LOST);
        due("outside", x.luck(0, 1, -1), LOST);
    }

    private static void reports() {
        promise = 29;
        ToldChances x = new ToldChances();
        fill(x, 1, "ynynynn", 51, 51, 49, 49, 50, 50, 0);
        x.tell(1, 30, 5);
        due("report", reportOf(x, 1), "T1 square 15004/7 +--+==+");
        ruleOf(x, "line");
        due("report", reportOf(x, 1), "T1 line 300/7 +--+==+");
        due("report of the mix", reportOf(x, 4), "T4 line 300/7 +--+==+");
        due("report without cases", reportOf(x, 3), "T3 line - ");
        due("behind the end", x.report(3, 10), NONE);
        due("far behind the end", x.report(3, 99), NONE);
        due("outside", x.report(3, 100), OUTSIDE);
        due("outside", x.report(3, -2), OUTSIDE);
        due("no such", x.report(5, 0), UNKNOWN);
        due("no such", x.report(-1, 100), UNKNOWN);
        ToldChances y = new ToldChances();
        StringBuilder signs = new StringBuilder();
        for (int e = 0; e < 40; e++) {
            y.tell(2, e, e == 0 ? 1 : 0);
            y.yes(e);
            signs.append('-');
        }
        ruleOf(y, "cube");
        due("a long report", reportOf(y, 2), "T2 cube 39970299/40 " + signs);
        ToldChances z = new ToldChances();
        fill(z, 0, "y", 100);
        due("report", reportOf(z, 0), "T0 square 0/1 +");
    }

    private static void manies() {
        promise = 30;
        ToldChances x = new ToldChances();
        fill(x, 0, "yyn", 1, 2, 3);
        fill(x, 3, "yyn", 1, 2, 3);
        x.tell(1, 39, 0);
        x.drop(0, 1);
        x.key(0);
        x.cut(7);
        x.cut(8);
        int[] wants = {2, 1, 6, 1, 2, 5};
        for (int what = 0; what < 6; what++) {
            due("many(" + what + ")", x.many(what), wants[what]);
        }
        x.no(39);
        due("many(1)", x.many(1), 2);
        due("many(5)", x.many(5), 6);
        due("outside", x.many(6), OUTSIDE);
        due("outside", x.many(-1), OUTSIDE);
        due("outside", x.many(LEAST), OUTSIDE);
    }

    public static void main(String[] args) {
        newObject();
        tellAndDrop();
        whatCame();
        weights();
        mix();
        tape();
        lines();
        faults();
        rules();
        misses();
        scores();
        ranks();
        lures();
        cuts();
        bins();
        splits();
        joins();
        areas();
        poolRows();
        whoWasBetter();
        lucks();
        reports();
        manies();
        System.out.println(checks + " checks, " + wrong + " wrong");
        if (wrong != 0) {
            System.exit(1);
        }
    }
}
