/**
 * Each sentence of the document that names a boundary case has rows of its own here: the last number that is taken
 * and the first that is refused on both sides, empty and full, and which refusal comes first. A row is a new object,
 * calls that go before, one call, and the answer that is due; the sentence is the document's.
 */
public final class BoundaryTest {
    private static final int UNKNOWN = -1, OUTSIDE = -2, FULL = -4, NONE = -9;
    private static final long LOST = Long.MIN_VALUE;
    private static final int LEAST = Integer.MIN_VALUE, GREATEST = Integer.MAX_VALUE;
    private static final String[] WORDS = {"square", "line", "edge", "cube"};

    /** Calls that only tell: they change nothing, so each row is tried with them between, too. */
    private static final String STIR = "told 4 0;came 0;miss 3 1;rank 0;lure 7;many 5;bin 0 0 2;pools 4;pool 0 0 2;"
            + "better 0 1 0;report 4 3;report 0 -1;area 0 0;split 0 5 0;split 4 2 1;joined 0 0 0;luck 0 4 1;flat 0 1;"
            + "score 4 0;score 0 0";
    private static final int ROOM_TO_STIR = House.MOST_CALLS - 30;

    /** The greatest least shared multiple (16380) that sizes of bins of 40 cases can have; empty bins too. */
    private static final String AWKWARD = "cases 0 yynnyyyyyyynnyyyynyyyyyynyyyyyyyyynnnnyn"
            + " 5 8 4 8 17 13 14 16 11 18 19 14 18 22 26 21 24 24 38 38 32 35 33 30 35 46 41 44 49 40 45 46 43 47 41 42"
            + " 49 47 56 56;cut 10;cut 20;cut 30;cut 40;cut 50;cut 60;cut 70;cut 99;cut 100";

    /** Eleven shares of yes, each greater than the one below: more pools 40 cases cannot have. */
    private static final String MOST_POOLS = groups(0, 0, 3, 0, 10, 5, 1, 20, 4, 1, 30, 3, 1, 40, 5, 2, 50, 2, 1,
            60, 5, 3, 70, 3, 2, 80, 4, 3, 90, 5, 4, 100, 1, 1);

    private static int rows = 0;
    private static int wrong = 0;
    private static String promise = "";

    // ---- rows

    private static void due(String sentence, String before, String call, long want) {
        rows++;
        for (String between : new String[] {"", STIR}) {
            House house = new House(before);
            if (house.calls() < ROOM_TO_STIR || between.isEmpty()) {
                house.play(between);
                long got = house.call(call);
                if (got != want) {
                    tellWrong(sentence, before, call, Long.toString(got), Long.toString(want));
                    return;
                }
            }
        }
    }

    private static void dueFraction(String sentence, String before, String call, long upper, long lower) {
        due(sentence, before, call + " 0", upper);
        due(sentence, before, call + " 1", lower);
    }

    private static void dueReport(String sentence, String before, int t, String want) {
        rows++;
        for (String between : new String[] {"", STIR}) {
            House house = new House(before);
            house.play(between);
            String got = house.report(t);
            if (!got.equals(want)) {
                tellWrong(sentence, before, "report " + t, got, want);
                return;
            }
        }
    }

    /** Numbers on both sides of what is taken, far away, and such as a narrower type would take. */
    private static void refusedAround(String sentence, String before, String call, int low, int high, long refusal) {
        int[] numbers = {low - 1, high + 1, LEAST, GREATEST, low + 256, high - 256, low + 65536, high - 65536};
        for (int number : numbers) {
            due(sentence, before, call.replace("#", Integer.toString(number)), refusal);
        }
    }

    private static void tellWrong(String sentence, String before, String call, String got, String want) {
        wrong++;
        System.out.println(promise + ": '" + sentence + "': " + call + " answered " + got + ", due is " + want
                + "; before it: " + before);
    }

    // ---- scripts

    /** The tape holds this text alone. */
    private static String tape(String text) {
        return "wipe;keys " + text + ";";
    }

    private static String rule(String word) {
        return tape(word) + "rule;";
    }

    private static String times(int count, String script) {
        return House.times(count, script);
    }

    /** Cases from event 0 on, by threes: a chance, how many cases, how many of them yes. */
    private static String groups(int t, int... threes) {
        StringBuilder script = new StringBuilder();
        int e = 0;
        for (int i = 0; i + 2 < threes.length; i += 3) {
            for (int j = 0; j < threes[i + 1]; j++) {
                script.append("tell ").append(t).append(' ').append(e).append(' ').append(threes[i]).append(';');
                script.append(j < threes[i + 2] ? "yes " : "no ").append(e).append(';');
                e++;
            }
        }
        return script.toString();
    }

    // ---- what it is, and terms

    private static void calls() {
        promise = "what it is";
        String sentence = "An object is used for at most 512 calls";
        due(sentence, times(510, "key 5") + "wipe", "key 5", 1);
        due(sentence, times(511, "tell 3 39 7"), "tell 3 39 8", 7);
        due(sentence, times(511, "cut 50"), "cut 50", 0);
        due(sentence, times(511, "honest"), "honest", 101);
    }

    private static void constants() {
        promise = "terms";
        long[] constants = {ToldChances.UNKNOWN, ToldChances.OUTSIDE, ToldChances.STATE, ToldChances.FULL,
            ToldChances.NONE, ToldChances.LOST};
        long[] wants = {-1, -2, -3, -4, -9, Long.MIN_VALUE};
        for (int i = 0; i < wants.length; i++) {
            rows++;
            if (constants[i] != wants[i]) {
                tellWrong("REFUSALS", "", "constant " + i, Long.toString(constants[i]), Long.toString(wants[i]));
            }
        }
    }

    private static void newObject() {
        promise = "promise 1";
        for (int e = 0; e < 40; e++) {
            for (int t = 0; t <= 4; t++) {
                due("Nothing was told", "", "told " + t + " " + e, NONE);
            }
            due("all EVENTS are OPEN", "", "came " + e, 0);
        }
        for (int what = 0; what <= 5; what++) {
            due("Nothing was told, all EVENTS are OPEN, no CUTS", "", "many " + what, 0);
        }
        due("no CUTS", "", "bin 0 0 3", 0);
        due("no CUTS", "", "bin 0 0 4", 100);
        due("no CUTS", "", "bin 0 1 4", UNKNOWN);
        due("no CUTS", "", "cut 50", 1);
        due("the RULE is square", "", "miss 0 1", 10000);
        dueReport("the RULE is square", "", 0, "T0 square - ");
        for (int t = 0; t <= 3; t++) {
            due("a WEIGHT 0 .. 9 (1 at first)", "", "weigh " + t + " 9", 1);
        }
        due("The TAPE", "", "wipe", 0);
        due("The TAPE", "", "key 0", 1);
        House first = new House("tell 0 0 7;yes 0;weigh 0 5;cut 9;keys line;rule;key 9");
        due("A new object", "", "many 2", 0);
        due("A new object", "", "many 3", 0);
        due("A new object", "", "many 4", 0);
        due("A new object", "", "miss 0 1", 10000);
        due("A new object", "", "weigh 0 1", 1);
        if (first.call("told 0 0") != 7 || first.call("miss 0 1") != 100 || first.call("many 4") != 1) {
            tellWrong("A new object", "", "an older object", "something else", "what it was");
        }
    }

    // ---- 1 what is told, what came

    private static void tell() {
        promise = "promise 2";
        String sentence = "A TELLER (0 .. 3) TELLS a chance";
        due(sentence, "", "tell 0 5 5", NONE);
        due(sentence, "tell 0 5 5", "told 0 5", 5);
        due(sentence, "", "tell 3 5 5", NONE);
        due(sentence, "tell 3 5 5", "told 3 5", 5);
        refusedAround(sentence, "", "tell # 5 5", 0, 3, UNKNOWN);
        due("TELLER 4 is the MIX", "tell 0 5 5", "tell 4 5 5", UNKNOWN);
        sentence = "EVENTS 0 .. 39";
        due(sentence, "tell 1 0 7", "told 1 0", 7);
        due(sentence, "tell 1 39 7", "told 1 39", 7);
        due(sentence, "tell 1 39 7", "told 2 0", NONE);
        due(sentence, "tell 1 0 7", "told 0 39", NONE);
        refusedAround(sentence, "", "tell 1 # 7", 0, 39, UNKNOWN);
        sentence = "a chance 0 .. 100";
        due(sentence, "", "tell 1 1 0", NONE);
        due(sentence, "tell 1 1 0", "told 1 1", 0);
        due(sentence, "", "tell 1 1 100", NONE);
        due(sentence, "tell 1 1 100", "told 1 1", 100);
        refusedAround("OUTSIDE: p", "", "tell 1 1 #", 0, 100, OUTSIDE);
        due("OUTSIDE: p", "tell 1 1 5", "tell 1 1 -9", OUTSIDE);
        sentence = "which it was, or NONE";
        due(sentence, "tell 1 1 0", "tell 1 1 50", 0);
        due(sentence, "tell 1 1 100", "tell 1 1 50", 100);
        due(sentence, "tell 1 1 50", "tell 1 1 50", 50);
        due(sentence, "tell 1 1 50;drop 1 1", "tell 1 1 50", NONE);
        due(sentence, "yes 1", "tell 1 1 50", NONE);
        due(sentence, "no 1;tell 1 1 3", "tell 1 1 50", 3);
        sentence = "UNKNOWN; OUTSIDE: p";
        due(sentence, "", "tell 4 0 101", UNKNOWN);
        due(sentence, "", "tell -1 0 -1", UNKNOWN);
        due(sentence, "", "tell 0 40 101", UNKNOWN);
        due(sentence, "", "tell 0 -1 -1", UNKNOWN);
    }

    private static void drop() {
        promise = "promise 3";
        String sentence = "A TELLER (0 .. 3) TELLS none any more";
        due(sentence, "tell 0 5 6", "drop 0 5", 6);
        due(sentence, "tell 0 5 6;drop 0 5", "told 0 5", NONE);
        due(sentence, "tell 3 5 6", "drop 3 5", 6);
        due(sentence, "tell 3 5 6;tell 2 5 7;drop 3 5", "told 2 5", 7);
        refusedAround(sentence, "", "drop # 5", 0, 3, UNKNOWN);
        due("TELLER 4 is the MIX", "tell 0 5 5", "drop 4 5", UNKNOWN);
        sentence = "EVENTS 0 .. 39";
        due(sentence, "tell 1 0 6", "drop 1 0", 6);
        due(sentence, "tell 1 39 6", "drop 1 39", 6);
        due(sentence, "tell 1 39 6;tell 2 0 7;drop 1 39", "told 2 0", 7);
        refusedAround(sentence, "", "drop 1 #", 0, 39, UNKNOWN);
        sentence = "which it was, or NONE";
        due(sentence, "", "drop 1 1", NONE);
        due(sentence, "tell 1 1 0", "drop 1 1", 0);
        due(sentence, "tell 1 1 100", "drop 1 1", 100);
        due(sentence, "tell 1 1 100;drop 1 1", "drop 1 1", NONE);
        due(sentence, "tell 1 1 100;drop 1 1", "many 2", 0);
    }

    private static void turns() {
        String[] calls = {"yes", "no", "open"};
        int[] becomes = {1, 2, 0};
        for (int i = 0; i < 3; i++) {
            promise = "promise " + (4 + i);
            String sentence = "what it was (0 OPEN, 1 YES, 2 NO)";
            due(sentence, "", calls[i] + " 7", 0);
            due(sentence, "yes 7", calls[i] + " 7", 1);
            due(sentence, "no 7", calls[i] + " 7", 2);
            due(sentence, "yes 7;open 7", calls[i] + " 7", 0);
            sentence = "EVENTS 0 .. 39";
            String others = times(40, i == 2 ? "yes #" : "open #");
            for (int e : new int[] {0, 39}) {
                due(sentence, others, calls[i] + " " + e, i == 2 ? 1 : 0);
                due(sentence, others + calls[i] + " " + e, "came " + e, becomes[i]);
                due(sentence, others + calls[i] + " " + e, "came " + Math.abs(e - 1), i == 2 ? 1 : 0);
            }
            refusedAround(sentence, "", calls[i] + " #", 0, 39, UNKNOWN);
        }
        promise = "promise 9";
        due("What an EVENT is (0 OPEN, 1 YES, 2 NO)", "", "came 3", 0);
        due("What an EVENT is (0 OPEN, 1 YES, 2 NO)", "yes 3", "came 3", 1);
        due("What an EVENT is (0 OPEN, 1 YES, 2 NO)", "no 3", "came 3", 2);
        due("What an EVENT is (0 OPEN, 1 YES, 2 NO)", "no 3;open 3", "came 3", 0);
        due("EVENTS 0 .. 39", "yes 0;no 39", "came 0", 1);
        due("EVENTS 0 .. 39", "yes 0;no 39", "came 39", 2);
        refusedAround("EVENTS 0 .. 39", "", "came #", 0, 39, UNKNOWN);
    }

    private static void weigh() {
        promise = "promise 7";
        String sentence = "The WEIGHT of a TELLER (0 .. 3)";
        due(sentence, "", "weigh 0 5", 1);
        due(sentence, "weigh 0 5", "weigh 0 5", 5);
        due(sentence, "", "weigh 3 5", 1);
        due(sentence, "weigh 3 5", "weigh 3 6", 5);
        due(sentence, "weigh 3 5", "weigh 2 6", 1);
        refusedAround(sentence, "", "weigh # 5", 0, 3, UNKNOWN);
        sentence = "a WEIGHT 0 .. 9";
        due(sentence, "weigh 1 0", "weigh 1 5", 0);
        due(sentence, "weigh 1 9", "weigh 1 5", 9);
        refusedAround(sentence, "", "weigh 1 #", 0, 9, OUTSIDE);
        due("UNKNOWN; OUTSIDE", "", "weigh 4 10", UNKNOWN);
        due("UNKNOWN; OUTSIDE", "", "weigh -1 -1", UNKNOWN);
    }

    private static void told() {
        promise = "promise 8";
        String sentence = "What a TELLER (0 .. 4) TELLS";
        String all = "tell 0 5 10;tell 1 5 20;tell 2 5 30;tell 3 5 40";
        due(sentence, all, "told 0 5", 10);
        due(sentence, all, "told 3 5", 40);
        due(sentence, all, "told 4 5", 25);
        refusedAround(sentence, all, "told # 5", 0, 4, UNKNOWN);
        sentence = "EVENTS 0 .. 39";
        due(sentence, "tell 0 0 3;tell 3 39 4", "told 4 0", 3);
        due(sentence, "tell 0 0 3;tell 3 39 4", "told 4 39", 4);
        due(sentence, "tell 0 0 3;tell 3 39 4", "told 0 39", NONE);
        refusedAround(sentence, "", "told 0 #", 0, 39, UNKNOWN);
        refusedAround(sentence, "", "told 4 #", 0, 39, UNKNOWN);
        due("NONE. UNKNOWN", "", "told 0 0", NONE);
        due("NONE. UNKNOWN", "tell 0 0 0", "told 0 0", 0);
    }

    private static void mix() {
        promise = "terms 1, MIX";
        String sentence = "ROUNDED numbers go to the nearest whole one, a half goes up";
        due(sentence, "tell 0 0 0;tell 1 0 1", "told 4 0", 1);
        due(sentence, "tell 0 0 99;tell 3 0 100", "told 4 0", 100);
        due(sentence, "tell 0 0 50;weigh 0 3;tell 1 0 52", "told 4 0", 51);
        due(sentence, "tell 0 0 0;tell 1 0 0;tell 2 0 1", "told 4 0", 0);
        due(sentence, "tell 0 0 0;tell 1 0 1;tell 2 0 1", "told 4 0", 1);
        due(sentence, "tell 0 0 0;weigh 0 9;tell 1 0 1;weigh 1 8", "told 4 0", 0);
        due(sentence, "tell 0 0 0;weigh 0 8;tell 1 0 1;weigh 1 9", "told 4 0", 1);
        String heavy = "weigh 0 9;weigh 1 9;weigh 2 9;weigh 3 8;";
        due(sentence, heavy + "tell 0 0 99;tell 1 0 99;tell 2 0 100;tell 3 0 100", "told 4 0", 99);
        due(sentence, heavy + "tell 0 0 100;tell 1 0 100;tell 2 0 99;tell 3 0 99", "told 4 0", 100);
        sentence = "by these WEIGHTS together";
        due(sentence, times(4, "weigh # 9;tell # 39 100"), "told 4 39", 100);
        due(sentence, times(4, "weigh # 9;tell # 39 0"), "told 4 39", 0);
        due(sentence, "tell 0 0 80;weigh 1 9", "told 4 0", 80);
        sentence = "that TELL one and have a WEIGHT above 0";
        due(sentence, "tell 0 0 80;tell 1 0 20;weigh 1 0", "told 4 0", 80);
        due(sentence, "tell 0 0 80;tell 3 0 20;weigh 0 0", "told 4 0", 20);
        due(sentence, "tell 0 0 0", "told 4 0", 0);
        due(sentence, "tell 3 0 100", "told 4 0", 100);
        sentence = "none, if there is no such TELLER";
        due(sentence, "", "told 4 0", NONE);
        due(sentence, "tell 0 0 80;weigh 0 0", "told 4 0", NONE);
        due(sentence, times(4, "tell # 0 80;weigh # 0"), "told 4 0", NONE);
        due(sentence, times(4, "tell # 0 80;weigh # 0") + "weigh 3 1", "told 4 0", 80);
        due(sentence, "tell 0 0 80;drop 0 0", "told 4 0", NONE);
        due(sentence, "tell 0 0 80;drop 0 0;weigh 0 9", "told 4 1", NONE);
    }

    private static void keys() {
        promise = "promise 10";
        String sentence = "A code (0 .. 127) comes behind those of the TAPE: how many";
        due(sentence, "", "key 0", 1);
        due(sentence, "", "key 127", 1);
        refusedAround(sentence, "", "key #", 0, 127, OUTSIDE);
        sentence = "The TAPE has up to 24 codes";
        due(sentence, times(22, "key 5"), "key 5", 23);
        due(sentence, times(23, "key 5"), "key 5", 24);
        due(sentence, times(24, "key 5"), "key 5", FULL);
        due(sentence, times(24, "key 5"), "key 0", FULL);
        due(sentence, times(24, "key 5"), "key 127", FULL);
        due(sentence, times(30, "key 5"), "many 3", 24);
        due(sentence, times(30, "key 5") + "wipe", "key 5", 1);
        due("OUTSIDE; FULL", times(24, "key 5"), "key 128", OUTSIDE);
        due("OUTSIDE; FULL", times(24, "key 5"), "key -1", OUTSIDE);
        promise = "promise 11";
        sentence = "The TAPE is empty: how many codes it had";
        due(sentence, "", "wipe", 0);
        due(sentence, "key 0", "wipe", 1);
        due(sentence, times(24, "key 5"), "wipe", 24);
        due(sentence, times(25, "key 5"), "wipe", 24);
        due(sentence, "key 128", "wipe", 0);
        due(sentence, times(24, "key 5") + "wipe", "wipe", 0);
        due(sentence, times(24, "key 5") + "wipe", "many 3", 0);
        due(sentence, "keys yes 1;wipe", "line", -100);
    }

    // ---- lines

    private static void lineTaken(String sentence, String before, String line, long want, String look, long seen) {
        due(sentence, before + ";" + tape(line), "line", want);
        due(sentence, before + ";" + tape(line) + "line", look, seen);
        due("the TAPE is empty then", before + ";" + tape(line) + "line", "many 3", 0);
    }

    private static void linesTaken() {
        promise = "promise 12";
        String sentence = "(T 0 .. 3, E 0 .. 39, P 0 .. 100, W 0 .. 9.)";
        lineTaken(sentence, "", "tell 0 0 0", 991, "told 0 0", 0);
        lineTaken(sentence, "", "tell 3 39 100", 991, "told 3 39", 100);
        lineTaken(sentence, "tell 0 0 6", "drop 0 0", 1006, "told 0 0", NONE);
        lineTaken(sentence, "tell 3 39 6", "drop 3 39", 1006, "told 3 39", NONE);
        lineTaken(sentence, "", "yes 0", 1000, "came 0", 1);
        lineTaken(sentence, "", "yes 39", 1000, "came 39", 1);
        lineTaken(sentence, "", "no 0", 1000, "came 0", 2);
        lineTaken(sentence, "", "no 39", 1000, "came 39", 2);
        lineTaken(sentence, "yes 0", "open 0", 1001, "came 0", 0);
        lineTaken(sentence, "yes 39", "open 39", 1001, "came 39", 0);
        lineTaken(sentence, "", "weigh 0 0", 1001, "weigh 0 5", 0);
        lineTaken(sentence, "", "weigh 3 9", 1001, "weigh 3 5", 9);
        sentence = "its figures (1 to 3 of them)";
        lineTaken(sentence, "", "tell 003 039 100", 991, "told 3 39", 100);
        lineTaken(sentence, "", "tell 000 000 000", 991, "told 0 0", 0);
        lineTaken(sentence, "", "tell 02 09 010", 991, "told 2 9", 10);
        lineTaken(sentence, "tell 3 9 6", "drop 003 009", 1006, "told 3 9", NONE);
        lineTaken(sentence, "", "yes 009", 1000, "came 9", 1);
        lineTaken(sentence, "", "no 039", 1000, "came 39", 2);
        lineTaken(sentence, "yes 19", "open 019", 1001, "came 19", 0);
        lineTaken(sentence, "", "weigh 003 009", 1001, "weigh 3 5", 9);
        sentence = "what the call of that name answers and 1000";
        due(sentence, tape("tell 0 0 5"), "line", 991);
        due(sentence, "tell 0 0 0;" + tape("tell 0 0 5"), "line", 1000);
        due(sentence, "tell 0 0 100;" + tape("tell 0 0 5"), "line", 1100);
        due(sentence, tape("drop 0 0"), "line", 991);
        due(sentence, "tell 0 0 100;" + tape("drop 0 0"), "line", 1100);
        due(sentence, "no 0;" + tape("yes 0"), "line", 1002);
        due(sentence, "yes 0;" + tape("no 0"), "line", 1001);
        due(sentence, "no 0;" + tape("open 0"), "line", 1002);
        due(sentence, "weigh 0 9;" + tape("weigh 0 1"), "line", 1009);
        due(sentence, "weigh 0 0;" + tape("weigh 0 1"), "line", 1000);
        due("the TAPE is empty then", tape("yes 3") + "line", "line", -100);
        due("the TAPE is empty then", tape("yes 3") + "line;keys no 3", "line", 1001);
    }

    /** The tape's first fault is at this place, and the tape stays. */
    private static void fault(String sentence, String text, int place) {
        due(sentence, tape(text), "line", -100 - place);
        due("(the TAPE stays)", tape(text) + "line", "many 3", text.length());
        due("(the TAPE stays)", tape(text) + "line", "line", -100 - place);
    }

    private static void linesCutShort() {
        promise = "promise 12";
        String sentence = "how many codes there are, if it just ends too soon";
        String[] lines = {"tell 3 39 100", "drop 3 39", "yes 39", "no 39", "open 39", "weigh 3 9"};
        int[] wholeFrom = {11, 8, 5, 4, 6, 9};
        for (int i = 0; i < lines.length; i++) {
            for (int length = 0; length < wholeFrom[i]; length++) {
                fault(sentence, lines[i].substring(0, length), length);
            }
            for (int length = wholeFrom[i]; length <= lines[i].length(); length++) {
                due("It does what is told", tape(lines[i].substring(0, length)) + "line", "many 3", 0);
            }
            for (int length = 0; length <= lines[i].length(); length++) {
                String begun = lines[i].substring(0, length);
                fault("the first code with which no LINE goes on", begun + "x", length);
                fault("the first code with which no LINE goes on", begun + (char) 0, length);
                fault("the first code with which no LINE goes on", begun + (char) 127, length);
                fault("whatever comes behind it", begun + "x" + lines[i].substring(0, Math.min(9, length)), length);
            }
        }
        fault(sentence, "tell 003 ", 9);
        fault(sentence, "tell 003 039", 12);
        fault(sentence, "tell 003 039 ", 13);
        due("(the TAPE stays)", tape("ye") + "line;keys s 7", "line", 1000);
        due("(the TAPE stays)", tape("ye") + "line;keys s 7;line", "came 7", 1);
        due("(the TAPE stays)", tape("tell 0 0 ") + "line;keys 1;line;keys x", "many 3", 1);
    }

    private static void linesWithTooGreatNumbers() {
        promise = "promise 12";
        String sentence = "a number that is too great is a fault at its last figure: the first one with which it is";
        fault(sentence, "tell 4", 5);
        fault(sentence, "tell 9 0 0", 5);
        fault(sentence, "tell 10", 6);
        fault(sentence, "tell 30 0 0", 6);
        fault(sentence, "tell 3 40", 8);
        fault(sentence, "tell 3 50 0", 8);
        fault(sentence, "tell 3 100", 9);
        fault(sentence, "tell 3 390 0", 9);
        fault(sentence, "tell 3 39 101", 12);
        fault(sentence, "tell 3 39 110", 12);
        fault(sentence, "tell 3 39 200", 12);
        fault(sentence, "tell 3 39 999", 12);
        fault(sentence, "drop 4 0", 5);
        fault(sentence, "drop 30 0", 6);
        fault(sentence, "drop 3 40", 8);
        fault(sentence, "drop 3 99", 8);
        fault(sentence, "drop 3 399", 9);
        for (String word : new String[] {"yes", "no", "open"}) {
            int at = word.length();
            fault(sentence, word + " 40", at + 2);
            fault(sentence, word + " 99", at + 2);
            fault(sentence, word + " 100", at + 3);
            fault(sentence, word + " 399", at + 3);
            fault("(figures 0 may be ahead)", word + " 040", at + 3);
            fault("its figures (1 to 3 of them)", word + " 0039", at + 4);
            fault("its figures (1 to 3 of them)", word + " 0000", at + 4);
        }
        fault(sentence, "weigh 4 0", 6);
        fault(sentence, "weigh 12 0", 7);
        fault(sentence, "weigh 3 10", 9);
        fault(sentence, "weigh 3 99", 9);
        sentence = "(figures 0 may be ahead)";
        fault(sentence, "tell 04 0 0", 6);
        fault(sentence, "tell 004 0 0", 7);
        fault(sentence, "tell 010 0 0", 7);
        fault(sentence, "tell 3 040 0", 9);
        fault(sentence, "drop 004", 7);
        fault(sentence, "drop 003 040", 11);
        fault(sentence, "weigh 04 0", 7);
        fault(sentence, "weigh 3 010", 10);
        sentence = "its figures (1 to 3 of them)";
        fault(sentence, "tell 0003 0 0", 8);
        fault(sentence, "tell 3 0039 0", 10);
        fault(sentence, "tell 3 39 0100", 13);
        fault(sentence, "tell 3 39 1000", 13);
        fault(sentence, "tell 3 39 0000", 13);
        fault(sentence, "drop 0003 0", 8);
        fault(sentence, "drop 3 0039", 10);
        fault(sentence, "weigh 0003 0", 9);
        fault(sentence, "weigh 3 0009", 11);
        sentence = "whatever comes behind it";
        fault(sentence, "yes 40 yes 1", 5);
        fault(sentence, "tell 4 0 0", 5);
        fault(sentence, "tell 3 40 yes 1", 8);
    }

    private static void linesWithWrongSigns() {
        promise = "promise 12";
        String sentence = "the word, then for each number one blank (32) and its figures";
        String[] lines = {"tell 3 39 100", "drop 3 39", "yes 39", "no 39", "open 39", "weigh 3 9"};
        for (String line : lines) {
            fault("nothing behind", line + " ", line.length());
            fault("nothing behind", line + " 1", line.length());
            fault("nothing behind", line + (char) 10, line.length());
            fault(sentence, " " + line, 0);
            fault(sentence, line.substring(0, 1).toUpperCase() + line.substring(1), 0);
            int blank = line.indexOf(' ');
            fault(sentence, line.substring(0, blank) + line.substring(blank + 1), blank);
            for (int code : new int[] {0, 9, 31, 33, 48}) {
                fault(sentence, line.substring(0, blank) + (char) code + line.substring(blank + 1), blank);
            }
            for (int code : new int[] {0, 31, 32, 33, 45, 47, 58, 127}) {
                fault(sentence, line.substring(0, blank + 1) + (char) code, blank + 1);
            }
        }
        fault(sentence, "tell 3  39 1", 7);
        fault(sentence, "tell 3 39  1", 10);
        fault(sentence, "tell 3 -1", 7);
        fault(sentence, "tell 3 39 -", 10);
        fault(sentence, "tell 1/ 2 3", 6);
        fault(sentence, "tell 1: 2 3", 6);
        fault(sentence, "yes 1/", 5);
        fault(sentence, "yes 1:", 5);
        lineTaken(sentence, "", "yes 9", 1000, "came 9", 1);
        lineTaken(sentence, "", "yes 10", 1000, "came 10", 1);
        sentence = "A LINE is one of";
        for (String text : new String[] {"line", "square", "came 1", "key 1", "cut 5", "a", "z", "0", "~"}) {
            fault(sentence, text, 0);
        }
        fault(sentence, "told 0 1", 1);
        fault(sentence, "wipe", 1);
        fault(sentence, "nO 1", 1);
        fault(sentence, "noo", 2);
        fault(sentence, "yeah", 2);
        sentence = "The TAPE has up to 24 codes";
        fault(sentence, "tell 003 039 100        ", 16);
        fault(sentence, "tttttttttttttttttttttttt", 1);
        fault(sentence, "                        ", 0);
    }

    // ---- 2 rules

    private static void rules() {
        promise = "promise 13";
        String sentence = "0 square, 1 line, 2 edge, 3 cube";
        for (int i = 0; i < WORDS.length; i++) {
            String word = WORDS[i];
            due(sentence, "keys " + word, "rule", i);
            due(sentence, rule("edge") + "keys " + word, "rule", i);
            dueReport(sentence, rule("line") + rule(word), 0, "T0 " + word + " - ");
            due("(which is empty then)", rule(word), "many 3", 0);
            due("(which is empty then)", rule(word), "rule", UNKNOWN);
            for (int length = 0; length < word.length(); length++) {
                noWord(word.substring(0, length));
                noWord(word.substring(0, length) + "x" + word.substring(length + 1));
            }
            noWord(word + " ");
            noWord(" " + word);
            noWord(word + word);
            noWord(word + (char) 0);
            noWord(word.toUpperCase());
            noWord(word.substring(1));
        }
        noWord("squarelineedgecubesquare");
        noWord("                        ");
        noWord("yes 1");
        noWord("0");
        due("The RULE is square at first", "", "miss 0 1", 10000);
    }

    private static void noWord(String text) {
        due("UNKNOWN: it is no such word", tape(text), "rule", UNKNOWN);
        due("(the TAPE stays)", tape(text) + "rule", "many 3", text.length());
        due("UNKNOWN: it is no such word", rule("line") + tape(text) + "rule", "miss 0 1", 100);
    }

    private static void misses() {
        promise = "promise 14";
        int[] far = {0, 1, 49, 50, 51, 99, 100};
        int[][] wants = {
            {0, 1, 2401, 2500, 2601, 9801, 10000},
            {0, 1, 49, 50, 51, 99, 100},
            {0, 0, 0, 50, 100, 100, 100},
            {0, 1, 117649, 125000, 132651, 970299, 1000000},
        };
        String[] sentences = {
            "square: (p less c) times itself",
            "line: how far p is from c",
            "edge: 100, if p is on the other side of 50 than c, 50, if p is 50, else 0",
            "cube: how far p is from c, three times with itself",
        };
        for (int r = 0; r < WORDS.length; r++) {
            for (int i = 0; i < far.length; i++) {
                due(sentences[r], rule(WORDS[r]), "miss " + far[i] + " 0", wants[r][i]);
                due(sentences[r], rule(WORDS[r]), "miss " + (100 - far[i]) + " 1", wants[r][i]);
            }
            refusedAround("OUTSIDE: p, c", rule(WORDS[r]), "miss # 0", 0, 100, OUTSIDE);
            refusedAround("OUTSIDE: p, c", rule(WORDS[r]), "miss # 1", 0, 100, OUTSIDE);
            refusedAround("OUTSIDE: p, c", rule(WORDS[r]), "miss 50 #", 0, 1, OUTSIDE);
        }
        due("OUTSIDE: p, c", "", "miss 101 2", OUTSIDE);
        due("OUTSIDE: p, c", "", "miss -1 -1", OUTSIDE);
        due("if it is YES (c 1), NO (0)", "", "miss 50 100", OUTSIDE);
    }

    private static void scores() {
        promise = "promise 15";
        String sentence = "The mean of MISSES of a TELLER's CASES by the RULE";
        String some = "cases 0 yn 70 10;cases 3 yn 80 0;weigh 0 0;";
        dueFraction(sentence, some, "score 0", 500, 1);
        dueFraction(sentence, some, "score 3", 200, 1);
        dueFraction(sentence, some, "score 4", 200, 1);
        refusedAround("LOST: UNKNOWN", some, "score # 0", 0, 4, LOST);
        refusedAround("upper number (which 0), lower (1)", some, "score 0 #", 0, 1, LOST);
        due("LOST: UNKNOWN; OUTSIDE", some, "score 5 2", LOST);
        sentence = "STATE: it has no CASES";
        dueStateLost(sentence, "score #");
        sentence = "in least terms (0 is 0 by 1)";
        dueFraction(sentence, "cases 0 yn 100 0", "score 0", 0, 1);
        dueFraction(sentence, times(40, "tell 0 # 100;yes #"), "score 0", 0, 1);
        dueFraction(sentence, rule("line") + "cases 0 nnn 1 0 0", "score 0", 1, 3);
        dueFraction(sentence, rule("line") + "cases 0 nnn 1 1 1", "score 0", 1, 1);
        dueFraction(sentence, rule("line") + "cases 0 nnnn 1 0 1 0", "score 0", 1, 2);
        dueFraction(sentence, rule("cube") + times(40, "tell 0 # 100;no #"), "score 0", 1000000, 1);
        dueFraction(sentence, rule("cube") + times(40, "tell 0 # 100;no #") + "tell 0 39 99", "score 0", 39970299, 40);
        dueFraction(sentence, times(39, "tell 0 # 0;no #") + "tell 0 39 1;no 39", "score 0", 1, 40);
        dueFraction(sentence, rule("edge") + "cases 0 yyy 49 50 51", "score 0", 50, 1);
    }

    /** Teller 1, who is put for #, has no cases, for each reason there is; and has one in the last row. */
    private static void dueStateLost(String sentence, String call) {
        String other = "cases 0 yn 70 30;";
        String of1 = call.replace("#", "1");
        String of4 = call.replace("#", "4");
        String[] none = {"", other, other + "tell 1 2 50", "tell 1 0 50", "yes 0;no 1",
            other + "tell 1 0 50;tell 1 1 40;drop 1 0;drop 1 1", "cases 1 yn 70 30;open 0;open 1"};
        for (String before : none) {
            due(sentence, before, of1 + " 0", LOST);
            due(sentence, before, of1 + " 1", LOST);
        }
        due(sentence, other + "weigh 0 0", of4 + " 0", LOST);
        due(sentence, "", of4 + " 0", LOST);
        due("LOST: UNKNOWN; OUTSIDE; STATE", other, of1 + " 2", LOST);
    }

    private static void ranks() {
        promise = "promise 16";
        String sentence = "(0 .. 4; k from 0)";
        String alike = times(4, "tell # 0 60") + "yes 0;";
        for (int k = 0; k <= 4; k++) {
            due("those alike by number", alike, "rank " + k, k);
        }
        refusedAround("UNKNOWN: there are not so many", alike, "rank #", 0, 4, UNKNOWN);
        due("UNKNOWN: there are not so many", "", "rank 0", UNKNOWN);
        due("UNKNOWN: there are not so many", "tell 0 0 50", "rank 0", UNKNOWN);
        due("UNKNOWN: there are not so many", "yes 0", "rank 0", UNKNOWN);
        sentence = "those without CASES are left out";
        String two = "tell 3 0 70;tell 1 0 60;weigh 1 0;weigh 3 0;yes 0;tell 0 1 100;";
        due(sentence, two, "rank 0", 3);
        due(sentence, two, "rank 1", 1);
        due(sentence, two, "rank 2", UNKNOWN);
        due(sentence, "tell 2 0 70;no 0;weigh 2 0", "rank 0", 2);
        due(sentence, "tell 2 0 70;no 0;weigh 2 0", "rank 1", UNKNOWN);
        due(sentence, "tell 2 0 70;no 0", "rank 1", 4);
        due(sentence, "tell 2 0 70;no 0", "rank 2", UNKNOWN);
        sentence = "by the mean of MISSES, the least first";
        // 33 and a half, and 33 and a third: they differ behind the point alone.
        String near = rule("line") + "tell 0 0 33;tell 0 1 34;tell 1 0 33;tell 1 1 33;tell 1 2 34;no 0;no 1;no 2;"
                + "weigh 0 0;weigh 1 0;";
        due(sentence, near, "rank 0", 1);
        due(sentence, near, "rank 1", 0);
        String same = rule("line") + "cases 1 nn 33 34;cases 0 nnnn 33 34 34 33;weigh 0 0;weigh 1 0;";
        due("those alike by number", same, "rank 0", 0);
        due("those alike by number", same, "rank 1", 1);
        String mixFirst = "cases 0 yn 100 100;cases 1 yn 0 0;";
        due(sentence, mixFirst, "rank 0", 4);
        due(sentence, mixFirst, "rank 1", 0);
        due(sentence, mixFirst, "rank 2", 1);
        String fallen = "cases 0 y 10;cases 1 y 40;cases 2 y 70;cases 3 y 90;weigh 1 9;";
        int[] order = {3, 2, 4, 1, 0};
        for (int k = 0; k <= 4; k++) {
            due(sentence, fallen, "rank " + k, order[k]);
        }
    }

    private static void lures() {
        promise = "promise 17";
        for (String word : WORDS) {
            due("LURE of a belief b (0 .. 100)", rule(word), "lure 0", 0);
            refusedAround("OUTSIDE", rule(word), "lure #", 0, 100, OUTSIDE);
        }
        String sentence = "the least p (0 .. 100) for which";
        int[][] wants = {{0, 1, 49, 50, 51, 99, 100}, {0, 0, 0, 0, 100, 100, 100}, {0, 0, 0, 0, 51, 51, 51},
            {0, 9, 49, 50, 51, 91, 100}};
        int[] beliefs = {0, 1, 49, 50, 51, 99, 100};
        for (int r = 0; r < WORDS.length; r++) {
            for (int i = 0; i < beliefs.length; i++) {
                due(sentence, rule(WORDS[r]), "lure " + beliefs[i], wants[r][i]);
            }
        }
        promise = "promise 18";
        sentence = "For how many beliefs (0 .. 100) telling them has the least sum, too";
        int[] counts = {101, 3, 101, 5};
        for (int r = 0; r < WORDS.length; r++) {
            due(sentence, rule(WORDS[r]), "honest", counts[r]);
            due(sentence, rule(WORDS[r]) + "honest", "honest", counts[r]);
            due(sentence, rule("cube") + "honest;" + rule(WORDS[r]), "honest", counts[r]);
            due(sentence, rule("line") + "honest;" + rule(WORDS[r]), "honest", counts[r]);
        }
    }

    // ---- 3 parts, ranks, pools

    private static void cuts() {
        promise = "promise 19";
        String sentence = "OUTSIDE: c (1 .. 100)";
        due(sentence, "", "cut 1", 1);
        due(sentence, "cut 1", "bin 0 1 3", 1);
        due(sentence, "", "cut 100", 1);
        due(sentence, "cut 100", "bin 0 1 3", 100);
        refusedAround(sentence, "", "cut #", 1, 100, OUTSIDE);
        String nine = "cut 50;cut 100;cut 1;cut 20;cut 80;cut 40;cut 60;cut 30;cut 70;";
        sentence = "CUTS, 9 at most";
        due(sentence, "cut 50;cut 100;cut 1;cut 20;cut 80;cut 40;cut 60", "cut 30", 8);
        due(sentence, "cut 50;cut 100;cut 1;cut 20;cut 80;cut 40;cut 60;cut 30", "cut 70", 9);
        due(sentence, nine, "cut 2", FULL);
        due(sentence, nine, "cut 99", FULL);
        due(sentence, nine, "cut 49", FULL);
        due(sentence, nine + "cut 2", "many 4", 9);
        due(sentence, nine, "bin 0 9 3", 100);
        due(sentence, nine, "bin 0 10 3", UNKNOWN);
        due("OUTSIDE: c (1 .. 100); FULL", nine, "cut 0", OUTSIDE);
        due("OUTSIDE: c (1 .. 100); FULL", nine, "cut 101", OUTSIDE);
        sentence = "if there is none there, else it is no more";
        for (int cut : new int[] {1, 20, 50, 70, 100}) {
            due(sentence, nine, "cut " + cut, 8);
            due(sentence, nine + "cut " + cut, "cut " + cut, 9);
            due(sentence, nine + "cut " + cut, "cut 2", 9);
            due(sentence, nine + "cut " + cut + ";cut 2", "cut " + cut, FULL);
        }
        due(sentence, "cut 7", "cut 7", 0);
        due(sentence, "cut 7;cut 7", "cut 7", 1);
        due(sentence, "cut 7;cut 7", "bin 0 1 0", UNKNOWN);
        int[] kept = {0, 1, 20, 30, 40, 60, 70, 80, 100};
        for (int k = 0; k < kept.length; k++) {
            due(sentence, nine + "cut 50", "bin 0 " + k + " 3", kept[k]);
        }
        int[] left = {0, 20, 30, 40, 60, 70, 80};
        for (int k = 0; k < left.length; k++) {
            due(sentence, nine + "cut 50;cut 1;cut 100", "bin 0 " + k + " 3", left[k]);
        }
        due(sentence, nine + "cut 50;cut 1;cut 100", "bin 0 7 3", UNKNOWN);
    }

    private static void bins() {
        promise = "promise 20";
        String sentence = "a chance is in BIN k, if k CUTS are not greater than it";
        String some = "cases 0 ynyn 49 50 51 100;cases 3 yy 0 50;cut 50;";
        int[][] wants = {{1, 1, 49}, {3, 1, 201}};
        for (int k = 0; k < 2; k++) {
            for (int what = 0; what < 3; what++) {
                due(sentence, "cases 0 ynyn 49 50 51 100;cut 50;", "bin 0 " + k + " " + what, wants[k][what]);
                due(sentence, "cases 2 ynyn 49 50 51 100;cut 50;", "bin 4 " + k + " " + what, wants[k][what]);
                due("how many CASES", "tell 1 9 50;tell 1 8 0;cut 50;", "bin 1 " + k + " " + what, 0);
            }
        }
        due(sentence, "cases 0 yyy 0 99 100;cut 100", "bin 0 0 0", 2);
        due(sentence, "cases 0 yyy 0 99 100;cut 100", "bin 0 1 0", 1);
        due(sentence, "cases 0 yyy 0 1 100;cut 1", "bin 0 0 0", 1);
        due(sentence, "cases 0 yyy 0 1 100;cut 1", "bin 0 1 2", 101);
        refusedAround("UNKNOWN: TELLER", some, "bin # 0 0", 0, 4, UNKNOWN);
        refusedAround("UNKNOWN: TELLER", some, "bin # 0 3", 0, 4, UNKNOWN);
        due("UNKNOWN: TELLER", some, "bin 3 1 0", 1);
        sentence = "BIN (there is one more than CUTS)";
        refusedAround(sentence, "", "bin 0 # 0", 0, 0, UNKNOWN);
        refusedAround(sentence, some, "bin 0 # 0", 0, 1, UNKNOWN);
        refusedAround(sentence, some, "bin 0 # 3", 0, 1, UNKNOWN);
        refusedAround(sentence, some, "bin 0 # 4", 0, 1, UNKNOWN);
        refusedAround(sentence, House.span(1, 9, "cut #"), "bin 4 # 1", 0, 9, UNKNOWN);
        refusedAround("OUTSIDE", some, "bin 0 1 #", 0, 4, OUTSIDE);
        due("UNKNOWN: TELLER, BIN (there is one more than CUTS); OUTSIDE", some, "bin 5 0 5", UNKNOWN);
        due("UNKNOWN: TELLER, BIN (there is one more than CUTS); OUTSIDE", some, "bin 0 2 5", UNKNOWN);
        due("UNKNOWN: TELLER, BIN (there is one more than CUTS); OUTSIDE", some, "bin 0 -1 -1", UNKNOWN);
        sentence = "3 the least, 4 the greatest chance (0 .. 100) that is in it, told or not";
        due(sentence, "", "bin 0 0 3", 0);
        due(sentence, "", "bin 4 0 4", 100);
        due(sentence, "cut 1", "bin 1 0 3", 0);
        due(sentence, "cut 1", "bin 1 0 4", 0);
        due(sentence, "cut 1", "bin 1 1 3", 1);
        due(sentence, "cut 1", "bin 1 1 4", 100);
        due(sentence, "cut 100", "bin 1 0 4", 99);
        due(sentence, "cut 100", "bin 1 1 3", 100);
        due(sentence, "cut 100", "bin 1 1 4", 100);
        due(sentence, "cut 50;cut 51", "bin 1 1 3", 50);
        due(sentence, "cut 50;cut 51", "bin 1 1 4", 50);
        due(sentence, some, "bin 0 0 3", 0);
        due(sentence, some, "bin 0 0 4", 49);
        sentence = "0 how many CASES, 1 how many of them YES, 2 the sum of their chances";
        String full = times(40, "tell 0 # 100;yes #");
        due(sentence, full, "bin 0 0 0", 40);
        due(sentence, full, "bin 0 0 1", 40);
        due(sentence, full, "bin 0 0 2", 4000);
        due(sentence, full + "no 39", "bin 0 0 1", 39);
        due(sentence, full + "open 39", "bin 0 0 0", 39);
    }

    private static void splits() {
        promise = "promise 21";
        long[][] wants = {{319, 1600}, {16153, 1310400}, {1390317839L, 6552000000L}, {4110781, 6552000000L},
            {-17189, 16380000}, {160369, 400000}};
        long[][] spread = {{399, 1600}, {313, 4800}, {71, 24000}, {1, 4800}, {1, 1200}, {373, 2000}};
        String tens = House.span(1, 9, "cut #0");
        String[] sentences = {"0 DOUBT", "1 SHARPNESS", "2 HONESTY", "3 SPREAD", "4 LEAN",
            "or (5) PARTS 0 less 1, and 2, and 3, less 4"};
        for (int part = 0; part <= 5; part++) {
            String sentence = sentences[part];
            dueFraction(sentence, AWKWARD, "split 0 " + part, wants[part][0], wants[part][1]);
            dueFraction(sentence, AWKWARD, "split 4 " + part, wants[part][0], wants[part][1]);
            dueFraction(sentence, MOST_POOLS + tens, "split 0 " + part, spread[part][0], spread[part][1]);
            sentence = "0 is 0 by 1";
            dueFraction(sentence, "cases 0 yy 100 100;cut 50", "split 0 " + part, 0, 1);
            dueFraction(sentence, times(40, "tell 0 # 0;no #"), "split 0 " + part, 0, 1);
            dueStateLost("STATE: it has no CASES", "split # " + part);
            refusedAround("LOST: UNKNOWN", AWKWARD, "split # " + part + " 0", 0, 4, LOST);
            refusedAround("upper number (which 0), lower (1)", AWKWARD, "split 0 " + part + " #", 0, 1, LOST);
        }
        refusedAround("A PART (0 .. 4) of a TELLER, or (5)", AWKWARD, "split 0 # 0", 0, 5, LOST);
        String sentence = "the sum of n_k times the square of (O_k less O), by n";
        dueFraction(sentence, "cases 0 yn 60 40;cut 50", "split 0 1", 1, 4);
        dueFraction(sentence, "cases 0 yn 60 40;cut 60", "split 0 1", 1, 4);
        dueFraction(sentence, "cases 0 yn 60 40;cut 61", "split 0 1", 0, 1);
        dueFraction(sentence, "cases 0 yn 60 40;cut 40", "split 0 1", 0, 1);
        dueFraction(sentence, "cases 0 yn 60 40;cut 41", "split 0 1", 1, 4);
        sentence = "lower number (above 0)";
        dueFraction(sentence, "cases 0 ny 100 0", "split 0 4", -1, 2);
        dueFraction(sentence, "cases 0 yn 100 0", "split 0 4", 1, 2);
        dueFraction("3 SPREAD", "cases 0 ny 100 0", "split 0 3", 1, 4);
        dueFraction("or (5) PARTS", "cases 0 ny 100 0", "split 0 5", 1, 1);
        dueFraction("0 DOUBT", "cases 0 yn 1 1", "split 0 0", 1, 4);
        dueFraction("2 HONESTY", times(40, "tell 0 # 100;no #"), "split 0 2", 1, 1);
        dueFraction("2 HONESTY", "cases 0 y 37", "split 0 2", 3969, 10000);
        dueFraction("or (5) PARTS", "cases 0 y 37", "split 0 5", 3969, 10000);
    }

    private static void joins() {
        promise = "promise 22";
        String some = "cases 0 nyny 10 30 60 80;cut 20;cut 50;cut 90;";
        String sentence = "By how much SHARPNESS is less, if BIN k and the next one of a TELLER are one";
        dueFraction(sentence, some, "joined 0 0", 1, 8);
        dueFraction(sentence, some, "joined 4 1", 1, 24);
        dueFraction(sentence, some, "joined 0 2", 0, 1);
        dueFraction(sentence, "cases 0 yn 60 40;cut 50", "joined 0 0", 1, 4);
        dueFraction(sentence, "cases 0 yn 60 40;cut 50;cut 55", "joined 0 0", 0, 1);
        dueFraction(sentence, "cases 0 yn 60 40;cut 50;cut 55", "joined 0 1", 0, 1);
        dueFraction(sentence, "cases 0 yn 60 40;cut 1;cut 2", "joined 0 0", 0, 1);
        dueFraction(sentence, "cases 0 yn 60 40;cut 40", "joined 0 0", 0, 1);
        dueFraction(sentence, "cases 0 yn 60 40;cut 61", "joined 0 0", 0, 1);
        dueFraction(sentence, "cases 0 ynyn 60 60 40 40;cut 50", "joined 0 0", 0, 1);
        dueFraction(sentence, groups(0, 0, 20, 0, 100, 20, 20) + "cut 50", "joined 0 0", 1, 4);
        dueFraction(sentence, groups(0, 0, 19, 9, 100, 21, 10) + "cut 50", "joined 0 0", 1, 638400);
        String outer = groups(0, 0, 19, 9, 99, 1, 0, 100, 20, 10) + House.span(1, 8, "cut #0") + "cut 100";
        dueFraction(sentence, outer, "joined 0 7", 0, 1);
        dueFraction(sentence, outer, "joined 0 8", 1, 168);
        sentence = "UNKNOWN: TELLER, BIN, the next one";
        refusedAround(sentence, some, "joined # 0 0", 0, 4, LOST);
        refusedAround(sentence, some, "joined 0 # 0", 0, 2, LOST);
        due(sentence, some, "joined 0 3 0", LOST);
        due(sentence, some, "joined 0 3 1", LOST);
        due(sentence, some, "joined 0 4 0", LOST);
        due(sentence, "cases 0 yn 60 40", "joined 0 0 0", LOST);
        due(sentence, "cases 0 yn 60 40", "joined 0 -1 0", LOST);
        due(sentence, "cases 0 yn 60 40;" + House.span(1, 9, "cut #0"), "joined 0 9 0", LOST);
        dueFraction(sentence, "cases 0 yn 99 40;" + House.span(1, 9, "cut #0"), "joined 0 8", 0, 1);
        dueFraction(sentence, "cases 0 yn 90 89;" + House.span(1, 9, "cut #0"), "joined 0 8", 1, 4);
        refusedAround("upper number, lower", some, "joined 0 0 #", 0, 1, LOST);
        for (String before : new String[] {"cut 50;", "cut 50;tell 1 0 5", "cut 50;yes 0", "cut 50;cases 0 yn 60 40"}) {
            due("STATE: it has no CASES", before, "joined 1 0 0", LOST);
            due("STATE: it has no CASES", before, "joined 1 0 1", LOST);
        }
        due("STATE: it has no CASES", "cut 50;cases 0 yn 60 40;weigh 0 0", "joined 4 0 0", LOST);
    }

    private static void areas() {
        promise = "promise 23";
        String sentence = "those in which the YES was told the greater chance";
        dueFraction(sentence, "cases 0 yn 51 50", "area 0", 1, 1);
        dueFraction(sentence, "cases 0 yn 49 50", "area 0", 0, 1);
        dueFraction(sentence, "cases 0 ny 0 100", "area 4", 1, 1);
        dueFraction(sentence, "cases 0 nyny 10 30 60 80", "area 0", 3, 4);
        dueFraction(sentence, groups(0, 0, 20, 20, 100, 20, 0), "area 0", 0, 1);
        dueFraction(sentence, groups(0, 0, 20, 0, 100, 20, 20), "area 0", 1, 1);
        sentence = "and half of those in which it was the same";
        dueFraction(sentence, "cases 0 yn 50 50", "area 0", 1, 2);
        dueFraction(sentence, "cases 0 ynn 50 50 49", "area 0", 3, 4);
        dueFraction(sentence, "cases 0 ynn 50 50 51", "area 0", 1, 4);
        dueFraction(sentence, groups(0, 50, 40, 20), "area 0", 1, 2);
        dueFraction(sentence, groups(0, 0, 1, 1, 50, 38, 19, 100, 1, 0), "area 0", 361, 800);
        sentence = "STATE: its CASES are not both YES and NO";
        for (String before : new String[] {"", "cases 0 y 50", "cases 0 n 50", "cases 0 yy 50 60", "cases 0 nn 50 60",
            "cases 0 yo 50 60", "cases 0 no 50 60", "cases 0 y 50;no 1", "cases 0 n 50;yes 1",
            "cases 0 yn 50 60;open 0", "cases 0 yn 50 60;drop 0 1", times(40, "yes #;tell 0 # 5")}) {
            due(sentence, before, "area 0 0", LOST);
            due(sentence, before, "area 0 1", LOST);
            due(sentence, before, "area 4 0", LOST);
        }
        due(sentence, "cases 0 yn 50 60;weigh 0 0", "area 4 0", LOST);
        refusedAround("LOST: UNKNOWN", "cases 0 yn 60 50", "area # 0", 0, 4, LOST);
        refusedAround("upper number, lower", "cases 0 yn 60 50", "area 0 #", 0, 1, LOST);
        due("LOST: UNKNOWN; OUTSIDE", "cases 0 yn 60 50", "area 5 2", LOST);
    }

    private static void pools() {
        promise = "promise 24";
        String sentence = "How many POOLS a TELLER's CASES have";
        for (int t = 0; t <= 4; t++) {
            due(sentence, "", "pools " + t, 0);
            due(sentence, "tell 0 0 50;yes 1", "pools " + t, 0);
        }
        due(sentence, "cases 0 y 0", "pools 0", 1);
        due(sentence, "cases 0 y 0", "pools 4", 1);
        due(sentence, "cases 3 n 100", "pools 3", 1);
        due(sentence, MOST_POOLS, "pools 0", 11);
        due(sentence, MOST_POOLS, "pools 4", 11);
        due(sentence, MOST_POOLS, "pools 1", 0);
        due(sentence, groups(0, 0, 20, 20, 100, 20, 0), "pools 0", 1);
        due(sentence, times(40, "tell 0 # #;no #"), "pools 0", 1);
        due(sentence, times(20, "tell 0 # #;no #") + House.span(20, 39, "tell 0 # #;yes #"), "pools 0", 2);
        refusedAround("UNKNOWN", MOST_POOLS, "pools #", 0, 4, UNKNOWN);
        sentence = "the upper one has no greater share of YES than the lower one";
        due(sentence, "cases 0 yn 10 20", "pools 0", 1);
        due(sentence, "cases 0 ny 10 20", "pools 0", 2);
        due(sentence, "cases 0 yy 10 20", "pools 0", 1);
        due(sentence, "cases 0 nn 0 100", "pools 0", 1);
        due(sentence, groups(0, 10, 2, 1, 20, 4, 2), "pools 0", 1);
        due(sentence, groups(0, 10, 19, 9, 20, 21, 10), "pools 0", 2);
        due(sentence, groups(0, 10, 21, 10, 20, 19, 9), "pools 0", 1);
        due("first each chance a POOL of its own", "cases 0 yn 10 10", "pools 0", 1);
        sentence = "What is left does not hang on which ones are taken first";
        due(sentence, groups(0, 10, 2, 1, 20, 3, 2, 30, 3, 0), "pools 0", 1);
        due(sentence, groups(0, 10, 3, 1, 20, 3, 2, 30, 3, 1), "pools 0", 2);
        due(sentence, groups(0, 10, 4, 2, 20, 4, 3, 30, 4, 1), "pools 0", 1);
    }

    private static void poolRows() {
        promise = "promise 25";
        String sentence = "0 its least, 1 its greatest told chance, 2 how many CASES, 3 how many of them YES";
        int[][] wants = {{0, 0, 3, 0}, {10, 10, 5, 1}, {20, 20, 4, 1}, {30, 30, 3, 1}, {40, 40, 5, 2}, {50, 50, 2, 1},
            {60, 60, 5, 3}, {70, 70, 3, 2}, {80, 80, 4, 3}, {90, 90, 5, 4}, {100, 100, 1, 1}};
        for (int k = 0; k < wants.length; k++) {
            for (int what = 0; what < 4; what++) {
                due(sentence, MOST_POOLS, "pool 0 " + k + " " + what, wants[k][what]);
            }
        }
        int[] all = {0, 100, 40, 20};
        int[][] three = {{5, 5, 1, 0}, {15, 25, 2, 1}, {26, 99, 3, 2}};
        for (int what = 0; what < 4; what++) {
            due(sentence, groups(0, 0, 20, 20, 100, 20, 0), "pool 4 0 " + what, all[what]);
            for (int k = 0; k < 3; k++) {
                due(sentence, "cases 1 nynyyn 5 15 25 26 50 99;cut 20", "pool 1 " + k + " " + what, three[k][what]);
            }
        }
        sentence = "UNKNOWN; OUTSIDE";
        refusedAround(sentence, MOST_POOLS, "pool # 0 0", 0, 4, UNKNOWN);
        refusedAround(sentence, MOST_POOLS, "pool 0 # 0", 0, 10, UNKNOWN);
        refusedAround(sentence, "cases 0 ny 10 20", "pool 0 # 0", 0, 1, UNKNOWN);
        refusedAround(sentence, MOST_POOLS, "pool 0 10 #", 0, 3, OUTSIDE);
        due(sentence, "", "pool 0 0 0", UNKNOWN);
        due(sentence, "", "pool 4 0 0", UNKNOWN);
        due(sentence, "", "pool 0 0 4", UNKNOWN);
        due(sentence, MOST_POOLS, "pool 1 0 0", UNKNOWN);
        due(sentence, MOST_POOLS, "pool 5 0 4", UNKNOWN);
        due(sentence, MOST_POOLS, "pool 0 11 4", UNKNOWN);
        due(sentence, MOST_POOLS, "pool 0 -1 -1", UNKNOWN);
    }

    private static void flats() {
        promise = "promise 26";
        String sentence = "the least mean of squared (v less o)";
        dueFraction(sentence, MOST_POOLS, "flat 0", 11, 60);
        dueFraction(sentence, MOST_POOLS, "flat 4", 11, 60);
        dueFraction(sentence, groups(0, 0, 20, 20, 100, 20, 0), "flat 0", 1, 4);
        dueFraction(sentence, groups(0, 0, 20, 0, 100, 20, 20), "flat 0", 0, 1);
        dueFraction(sentence, "cases 0 y 0", "flat 0", 0, 1);
        dueFraction(sentence, groups(0, 10, 2, 2, 20, 2, 1), "flat 0", 3, 16);
        dueFraction(sentence, groups(0, 50, 40, 1), "flat 0", 39, 1600);
        dueFraction("the same for the same chance", "cases 0 yn 50 50", "flat 0", 1, 4);
        dueFraction("never less for a greater one", "cases 0 yn 50 51", "flat 0", 1, 4);
        dueFraction("never less for a greater one", "cases 0 ny 50 51", "flat 0", 0, 1);
        dueFraction("never less for a greater one", "cases 0 nyn 0 50 100", "flat 0", 1, 6);
        dueStateLost("STATE: it has no CASES", "flat #");
        refusedAround("LOST: UNKNOWN", MOST_POOLS, "flat # 0", 0, 4, LOST);
        refusedAround("upper number, lower", MOST_POOLS, "flat 0 #", 0, 1, LOST);
    }

    private static void betters() {
        promise = "promise 27";
        String sentence = "Of EVENTS that are CASES of both TELLERS";
        for (int what = 0; what < 4; what++) {
            due(sentence, "", "better 0 1 " + what, 0);
            due(sentence, "yes 0;tell 0 0 50;no 1;tell 1 1 50;tell 0 2 60;tell 1 2 70", "better 0 1 " + what, 0);
        }
        String all = times(40, "yes #;tell 0 # 60;tell 1 # 50;");
        int[] wants = {40, 40, 0, 0};
        int[] turned = {40, 0, 40, 0};
        int[] alone = {40, 0, 0, 40};
        int[] askew = {39, 38, 1, 0};
        for (int what = 0; what < 4; what++) {
            due(sentence, all, "better 0 1 " + what, wants[what]);
            due(sentence, all, "better 1 0 " + what, turned[what]);
            due(sentence, all, "better 0 0 " + what, alone[what]);
            due(sentence, all, "better 4 4 " + what, alone[what]);
            due(sentence, all, "better 0 4 " + what, wants[what]);
            due(sentence, all + "open 0;no 39", "better 0 1 " + what, askew[what]);
        }
        sentence = "MISSES by less (by the RULE), 3 neither";
        String near = "yes 0;tell 0 0 51;tell 3 0 52;";
        due(sentence, near, "better 0 3 2", 1);
        due(sentence, near, "better 3 0 1", 1);
        due(sentence, near + rule("edge"), "better 0 3 3", 1);
        due(sentence, near + rule("edge") + "tell 0 0 50", "better 0 3 2", 1);
        due(sentence, near + rule("edge") + "tell 0 0 50;no 0", "better 0 3 1", 1);
        due(sentence, near + "tell 0 0 52", "better 0 3 3", 1);
        refusedAround("UNKNOWN", all, "better # 0 0", 0, 4, UNKNOWN);
        refusedAround("UNKNOWN", all, "better 0 # 0", 0, 4, UNKNOWN);
        refusedAround("OUTSIDE", all, "better 0 1 #", 0, 3, OUTSIDE);
        due("UNKNOWN; OUTSIDE", all, "better 5 0 4", UNKNOWN);
        due("UNKNOWN; OUTSIDE", all, "better 0 5 4", UNKNOWN);
        due("UNKNOWN; OUTSIDE", all, "better -1 0 -1", UNKNOWN);
    }

    private static void lucks() {
        promise = "promise 28";
        String sentence = "(1 by 1 without such EVENTS)";
        dueFraction(sentence, "", "luck 0 1", 1, 1);
        dueFraction(sentence, "", "luck 4 4", 1, 1);
        dueFraction(sentence, "yes 0;tell 0 0 60;tell 1 0 60", "luck 0 1", 1, 1);
        dueFraction(sentence, "yes 0;tell 0 0 60;tell 1 1 60;no 1", "luck 0 1", 1, 1);
        dueFraction(sentence, times(40, "yes #;tell 0 # 60"), "luck 0 0", 1, 1);
        dueFraction(sentence, "yes 0;tell 0 0 60;tell 1 0 70;" + rule("edge"), "luck 0 1", 1, 1);
        sentence = "at least as many heads as the one that is better more often has of these";
        String all = times(40, "yes #;tell 0 # 60;tell 1 # 50;");
        dueFraction(sentence, all, "luck 0 1", 1, 1L << 40);
        dueFraction(sentence, all, "luck 1 0", 1, 1L << 40);
        dueFraction(sentence, all, "luck 0 4", 1, 1L << 40);
        dueFraction(sentence, all + "no 39", "luck 0 1", 41, 1L << 40);
        dueFraction(sentence, all + times(20, "no #"), "luck 0 1", 309339539149L, 549755813888L);
        dueFraction(sentence, all + times(19, "no #"), "luck 0 1", 240416274739L, 549755813888L);
        dueFraction(sentence, all + times(21, "no #"), "luck 0 1", 240416274739L, 549755813888L);
        dueFraction(sentence, all + times(19, "no #") + "open 39", "luck 0 1", 1, 2);
        dueFraction(sentence, "yes 0;tell 0 0 60;tell 1 0 70", "luck 0 1", 1, 2);
        dueFraction(sentence, "yes 0;tell 0 0 60;tell 1 0 70", "luck 1 0", 1, 2);
        dueFraction(sentence, "cases 0 yn 60 60;cases 1 yn 70 70", "luck 0 1", 3, 4);
        dueFraction(sentence, "cases 0 yyn 60 60 60;cases 1 yyn 70 60 60", "luck 0 1", 1, 2);
        refusedAround("LOST: UNKNOWN", all, "luck # 0 0", 0, 4, LOST);
        refusedAround("LOST: UNKNOWN", all, "luck 0 # 0", 0, 4, LOST);
        refusedAround("LOST: UNKNOWN; OUTSIDE", all, "luck 0 1 #", 0, 1, LOST);
        refusedAround("LOST: UNKNOWN; OUTSIDE", "", "luck 0 1 #", 0, 1, LOST);
    }

    // ---- 4 reports

    private static void reports() {
        promise = "promise 29";
        String sentence = "i -1: how many signs it has";
        due(sentence, "", "report 0 -1", 12);
        due(sentence, "cases 0 y 100", "report 0 -1", 15);
        String longest = rule("cube") + times(40, "yes #;tell 2 # 0;") + "tell 2 0 1;";
        due(sentence, longest, "report 2 -1", 60);
        sentence = "NONE: it has not so many";
        due(sentence, "", "report 0 0", 84);
        due(sentence, "", "report 0 11", 32);
        due(sentence, "", "report 0 12", NONE);
        due(sentence, "", "report 0 99", NONE);
        due(sentence, longest, "report 2 59", 45);
        due(sentence, longest, "report 2 60", NONE);
        due(sentence, longest, "report 2 99", NONE);
        sentence = "UNKNOWN; OUTSIDE: i (-1 .. 99)";
        refusedAround(sentence, "", "report 0 #", -1, 99, OUTSIDE);
        refusedAround(sentence, longest, "report 2 #", -1, 99, OUTSIDE);
        refusedAround(sentence, "", "report # 0", 0, 4, UNKNOWN);
        refusedAround(sentence, "", "report # -1", 0, 4, UNKNOWN);
        due(sentence, "", "report 5 100", UNKNOWN);
        due(sentence, "", "report -1 -2", UNKNOWN);
        sentence = "(- alone without CASES)";
        dueReport(sentence, "", 0, "T0 square - ");
        dueReport(sentence, "tell 3 0 50;yes 1", 3, "T3 square - ");
        dueReport(sentence, "cases 0 y 50;weigh 0 0;" + rule("edge"), 4, "T4 edge - ");
        sentence = "the mean of MISSES as upper number, / and lower number";
        dueReport(sentence, "cases 0 y 100", 0, "T0 square 0/1 +");
        dueReport(sentence, "cases 1 y 0", 1, "T1 square 10000/1 -");
        dueReport(sentence, rule("cube") + "cases 1 y 0", 4, "T4 cube 1000000/1 -");
        for (int far : new int[] {1, 9, 10, 11, 99, 100}) {
            String sign = far < 50 ? "+" : "-";
            dueReport(sentence, rule("line") + "cases 0 n " + far, 0, "T0 line " + far + "/1 " + sign);
        }
        dueReport(sentence, rule("line") + groups(0, 1, 1, 0, 0, 8, 0), 0, "T0 line 1/9 +++++++++");
        dueReport(sentence, rule("line") + groups(0, 9, 1, 0, 0, 9, 0), 0, "T0 line 9/10 ++++++++++");
        dueReport(sentence, longest, 2, "T2 cube 39970299/40 " + "-".repeat(40));
        dueReport(sentence, rule("line") + "cases 3 yyn 91 100 0", 3, "T3 line 3/1 +++");
        dueReport(sentence, rule("line") + "cases 3 yyn 90 100 0", 3, "T3 line 10/3 +++");
        dueReport(sentence, times(39, "no #;tell 0 # 0;") + "no 39;tell 0 39 1", 0, "T0 square 1/40 " + "+".repeat(40));
        sentence = "+ if its chance is above 50 and it is YES, or below 50 and it is NO; = if it is 50; else -";
        dueReport(sentence, rule("edge") + "cases 0 ynynyn 51 51 49 49 50 50", 0, "T0 edge 50/1 +--+==");
        dueReport(sentence, rule("edge") + "cases 0 ynyn 0 0 100 100", 0, "T0 edge 50/1 -++-");
        sentence = "for each EVENT that is a CASE, by number";
        dueReport(sentence, "yes 39;tell 0 39 100;no 0;tell 0 0 100;tell 0 5 50;yes 6", 0, "T0 square 5000/1 -+");
    }

    private static void manies() {
        promise = "promise 30";
        String all = times(40, "tell 0 # 5;tell 1 # 6;tell 2 # 7;tell 3 # 8;");
        String full = all + times(40, "yes #") + times(24, "key 5") + House.span(1, 9, "cut #");
        long[] wants = {40, 0, 160, 24, 9, 160};
        long[] fewer = {38, 1, 156, 0, 8, 152};
        String[] sentences = {"0 EVENTS that are YES", "1 NO", "2 chances that TELLERS 0 .. 3 TELL",
            "3 codes on the TAPE", "4 CUTS", "5 CASES of all TELLERS 0 .. 3 together"};
        for (int what = 0; what <= 5; what++) {
            due(sentences[what], "", "many " + what, 0);
            due(sentences[what], full, "many " + what, wants[what]);
            due(sentences[what], full + "no 0;open 39;wipe;cut 9;" + times(4, "drop # 7"), "many " + what, fewer[what]);
        }
        due("1 NO", times(40, "no #"), "many 1", 40);
        due("1 NO", times(40, "no #"), "many 0", 0);
        due("2 chances that TELLERS 0 .. 3 TELL", "tell 0 0 0;tell 3 39 0", "many 2", 2);
        due("2 chances that TELLERS 0 .. 3 TELL", "tell 0 0 0;tell 0 0 0", "many 2", 1);
        due("5 CASES of all TELLERS 0 .. 3 together", all, "many 5", 0);
        due("5 CASES of all TELLERS 0 .. 3 together", "tell 0 0 5;weigh 0 0;yes 0", "many 5", 1);
        due("5 CASES of all TELLERS 0 .. 3 together", "tell 3 39 5;no 39", "many 5", 1);
        refusedAround("OUTSIDE", full, "many #", 0, 5, OUTSIDE);
    }

    public static void main(String[] args) {
        constants();
        calls();
        newObject();
        tell();
        drop();
        turns();
        weigh();
        told();
        mix();
        keys();
        linesTaken();
        linesCutShort();
        linesWithTooGreatNumbers();
        linesWithWrongSigns();
        rules();
        misses();
        scores();
        ranks();
        lures();
        cuts();
        bins();
        splits();
        joins();
        areas();
        pools();
        poolRows();
        flats();
        betters();
        lucks();
        reports();
        manies();
        System.out.println(rows + " rows, " + wrong + " wrong");
        if (wrong != 0) {
            System.exit(1);
        }
    }
}
