import java.util.ArrayList;
import java.util.List;

/**
 * Refusals: for each call all twos and threes of numbers that are taken and that are not, with the refusal that comes
 * first; and that a refused call, and one that only tells something, changes nothing. Each is tried on a new object,
 * on some ordinary ones and on one that is full.
 */
public final class RefusalTest {
    private static final int UNKNOWN = -1, OUTSIDE = -2, FULL = -4;
    private static final long LOST = Long.MIN_VALUE;

    private static int checks = 0;
    private static int wrong = 0;

    public static void main(String[] args) {
        World[] worlds = {empty(), ordinary(), word(), full()};
        for (World world : worlds) {
            for (Call call : callsIn(world)) {
                tryArguments(world, call, List.of(), 0, 0);
            }
            for (Object[] row : world.refused) {
                tryOne(world, (String) row[0], ((Number) row[1]).longValue(), VIEWS.length);
            }
        }
        System.out.println(checks + " checks, " + wrong + " wrong");
        if (wrong != 0) {
            System.exit(1);
        }
    }

    // ---- the worlds

    /** Calls that make an object what it is, and what is then to be known of it. */
    private static final class World {
        final String script;
        final int cuts;
        final int[] pools;
        final int ranked;
        final Object[][] refused;
        final String[] seen = new String[VIEWS.length];

        World(String script, int cuts, int ranked, int[] pools, Object[]... refused) {
            this.script = script;
            this.cuts = cuts;
            this.ranked = ranked;
            this.pools = pools;
            this.refused = refused;
            for (int v = 0; v < VIEWS.length; v++) {
                seen[v] = look(new House(script), VIEWS[v]);
            }
        }

        boolean hasCases(int t) {
            return t >= 0 && t < pools.length && pools[t] > 0;
        }
    }

    private static Object[] row(String call, long want) {
        return new Object[] {call, want};
    }

    private static World empty() {
        return new World("", 0, 0, new int[] {0, 0, 0, 0, 0}, row("line", -100), row("rule", UNKNOWN),
                row("rank 0", UNKNOWN), row("score 0 0", LOST), row("split 4 5 1", LOST), row("joined 0 0 0", LOST),
                row("area 0 0", LOST), row("flat 4 1", LOST), row("pool 0 0 0", UNKNOWN), row("bin 0 1 0", UNKNOWN));
    }

    /** Two tellers with cases of both kinds, one with a yes alone, one with none; a line on the tape. */
    private static World ordinary() {
        String script = "keys line;rule;keys tell 0 3 7;cases 0 nynyy 10 30 60 80 90;cases 1 nyn 40 40 40;tell 3 1 99;"
                + "tell 2 7 1;weigh 0 2;weigh 3 0;cut 35;cut 70";
        return new World(script, 2, 4, new int[] {3, 1, 0, 1, 3}, row("rule", UNKNOWN), row("score 2 0", LOST),
                row("split 2 1 1", LOST), row("joined 2 0 0", LOST), row("joined 0 2 0", LOST), row("area 2 0", LOST),
                row("area 3 0", LOST), row("area 3 1", LOST), row("flat 2 0", LOST), row("pool 2 0 0", UNKNOWN),
                row("rank 4", UNKNOWN));
    }

    /** The word of a rule on the tape, and one event. */
    private static World word() {
        return new World("tell 0 39 50;no 39;cut 100;keys cube", 1, 2, new int[] {1, 0, 0, 0, 1}, row("line", -100),
                row("area 0 0", LOST), row("area 4 0", LOST), row("joined 0 1 0", LOST), row("pool 0 1 0", UNKNOWN));
    }

    private static World full() {
        StringBuilder script = new StringBuilder("keys edge;rule;weigh 0 9;weigh 1 0;weigh 2 0;weigh 3 0;");
        for (int e = 0; e < 40; e++) {
            script.append(e < 20 ? "yes " : "no ").append(e).append(';');
            int[] chances = {e, 99 - e, 50, 100};
            for (int t = 0; t < 4; t++) {
                script.append("tell ").append(t).append(' ').append(e).append(' ').append(chances[t]).append(';');
            }
        }
        script.append(House.span(1, 9, "cut #1")).append("keys tell 003 039 100 1 2 3 4");
        return new World(script.toString(), 9, 5, new int[] {1, 2, 1, 1, 1}, row("line", -116), row("rule", UNKNOWN),
                row("key 0", FULL), row("key 127", FULL), row("key 48", FULL), row("key 128", OUTSIDE),
                row("key -1", OUTSIDE), row("cut 1", FULL), row("cut 100", FULL), row("cut 12", FULL),
                row("cut 0", OUTSIDE), row("cut 101", OUTSIDE), row("joined 0 9 0", LOST), row("rank 5", UNKNOWN));
    }

    // ---- what can be seen of an object

    private static final String[] VIEWS = {
        House.times(40, "told 0 #;told 1 #;told 2 #;told 3 #;told 4 #"),
        House.times(40, "came #") + House.times(6, "many #") + House.times(6, "rank #") + House.times(101, "miss # 1")
                + "honest;lure 30;lure 70",
        House.times(5, "score # 0;score # 1;area # 0;area # 1;flat # 0;flat # 1;pools #;")
                + House.times(5, House.times(4, "better # 0 @;better 1 # @").replace("@", "#"))
                + House.times(5, "luck # 0 0;luck 1 # 1"),
        House.times(10, "bin 0 # 0;bin 0 # 1;bin 0 # 2;bin 0 # 3;bin 0 # 4;bin 3 # 0;bin 4 # 0;bin 4 # 1;bin 4 # 2"),
        House.times(5, "split # 0 0;split # 1 0;split # 2 1;split # 3 0;split # 4 0;split # 5 0;split # 5 1")
                + House.times(9, "joined 0 # 0;joined 0 # 1;joined 4 # 0;joined 4 # 1"),
        House.times(5, "pool # 0 0;pool # 0 1;pool # 0 2;pool # 0 3;pool # 1 0;pool # 1 1;pool # 1 2;pool # 2 3"),
        House.times(62, "report 0 #;report 4 #") + House.times(5, "report # -1"),
        "rule;miss 30 1;line;many 3;key 48;key 32;wipe;weigh 0 1;weigh 1 1;weigh 2 1;weigh 3 1",
    };

    private static String look(House house, String view) {
        StringBuilder text = new StringBuilder();
        for (String call : view.split(";")) {
            if (!call.isEmpty()) {
                text.append(call).append(" = ").append(house.call(call)).append('\n');
            }
        }
        return text.toString();
    }

    private static String firstChange(String before, String after) {
        String[] old = before.split("\n");
        String[] now = after.split("\n");
        for (int i = 0; i < old.length && i < now.length; i++) {
            if (!old[i].equals(now[i])) {
                return old[i] + " became " + now[i];
            }
        }
        return "";
    }

    // ---- the calls and what their numbers may be

    private record Range(int low, int high, int refusal) {
        boolean has(int number) {
            return number >= low && number <= high;
        }
    }

    /** One that only tells changes nothing, even if it is not refused. */
    private record Call(String name, boolean isLong, boolean onlyTells, Range... ranges) {
    }

    private static List<Call> callsIn(World world) {
        Range plain = new Range(0, 3, UNKNOWN);
        Range teller = new Range(0, 4, UNKNOWN);
        Range event = new Range(0, 39, UNKNOWN);
        Range chance = new Range(0, 100, OUTSIDE);
        Range which = new Range(0, 1, OUTSIDE);
        List<Call> calls = new ArrayList<>();
        calls.add(new Call("tell", false, false, plain, event, chance));
        calls.add(new Call("drop", false, false, plain, event));
        calls.add(new Call("yes", false, false, event));
        calls.add(new Call("no", false, false, event));
        calls.add(new Call("open", false, false, event));
        calls.add(new Call("weigh", false, false, plain, new Range(0, 9, OUTSIDE)));
        calls.add(new Call("told", false, true, teller, event));
        calls.add(new Call("came", false, true, event));
        calls.add(new Call("miss", false, true, chance, which));
        calls.add(new Call("score", true, true, teller, which));
        calls.add(new Call("rank", false, true, new Range(0, world.ranked - 1, UNKNOWN)));
        calls.add(new Call("lure", false, true, chance));
        calls.add(new Call("bin", false, true, teller, new Range(0, world.cuts, UNKNOWN), new Range(0, 4, OUTSIDE)));
        calls.add(new Call("split", true, true, teller, new Range(0, 5, OUTSIDE), which));
        calls.add(new Call("joined", true, true, teller, new Range(0, world.cuts - 1, UNKNOWN), which));
        calls.add(new Call("area", true, true, teller, which));
        calls.add(new Call("pools", false, true, teller));
        calls.add(new Call("flat", true, true, teller, which));
        calls.add(new Call("pool", false, true, teller, null, new Range(0, 3, OUTSIDE)));
        calls.add(new Call("better", false, true, teller, teller, new Range(0, 3, OUTSIDE)));
        calls.add(new Call("luck", true, true, teller, teller, which));
        calls.add(new Call("report", false, true, teller, new Range(-1, 99, OUTSIDE)));
        calls.add(new Call("many", false, true, new Range(0, 5, OUTSIDE)));
        if (world.cuts < 9) {
            calls.add(new Call("cut", false, false, new Range(1, 100, OUTSIDE)));
            calls.add(new Call("key", false, false, new Range(0, 127, OUTSIDE)));
        }
        return calls;
    }

    /** What the next number of a call may be; how many pools there are hangs on the teller. */
    private static Range nextRange(World world, Call call, List<Integer> numbers) {
        Range range = call.ranges[numbers.size()];
        if (range != null) {
            return range;
        }
        int t = numbers.get(0);
        return new Range(0, t >= 0 && t <= 4 ? world.pools[t] - 1 : 0, UNKNOWN);
    }

    // ---- trying

    /** Goes through all numbers that are on an edge, place by place; refusal is the first one so far, or 0. */
    private static void tryArguments(World world, Call call, List<Integer> numbers, int refusal, int bad) {
        if (numbers.size() == call.ranges.length) {
            tryNumbers(world, call, numbers, refusal, bad);
            return;
        }
        Range range = nextRange(world, call, numbers);
        int[] edges = {range.low, range.high, range.low - 1, range.high + 1, Integer.MIN_VALUE, Integer.MAX_VALUE};
        for (int number : edges) {
            List<Integer> more = new ArrayList<>(numbers);
            more.add(number);
            int own = range.has(number) ? 0 : range.refusal;
            // UNKNOWN (-1) is told ahead of OUTSIDE (-2), wherever it stands.
            int first = own == 0 ? refusal : refusal == 0 ? own : Math.max(own, refusal);
            tryArguments(world, call, more, first, own == 0 ? bad : bad + 1);
        }
    }

    private static void tryNumbers(World world, Call call, List<Integer> numbers, int refusal, int bad) {
        StringBuilder text = new StringBuilder(call.name);
        for (int number : numbers) {
            text.append(' ').append(number);
        }
        if (refusal != 0) {
            // Where several numbers are wrong, the order of refusals is asked for first of all.
            tryOne(world, text.toString(), call.isLong ? LOST : refusal, bad == 1 ? VIEWS.length : 1);
            return;
        }
        checks++;
        long got = new House(world.script).call(text.toString());
        boolean refused = call.isLong ? got == LOST : got <= UNKNOWN && got >= FULL;
        boolean noCases = call.isLong && !call.name.equals("luck") && !world.hasCases(numbers.get(0));
        // An area can be lost with cases, too: the worlds have rows of their own for that.
        if (refused != noCases && (noCases || !call.name.equals("area"))) {
            tellWrong(world, text + " answered " + got);
        }
        if (call.onlyTells) {
            tryOne(world, text.toString(), got, VIEWS.length);
        }
    }

    /** The answer is as due, twice, and nothing that can be seen has changed. */
    private static void tryOne(World world, String call, long want, int views) {
        for (int v = 0; v < views; v++) {
            checks++;
            House house = new House(world.script);
            long got = house.call(call);
            long again = house.call(call);
            if (got != want || again != want) {
                tellWrong(world, call + " answered " + got + " and " + again + ", due is " + want);
                return;
            }
            String change = firstChange(world.seen[v], look(house, VIEWS[v]));
            if (!change.isEmpty()) {
                tellWrong(world, call + " is to change nothing, but " + change);
                return;
            }
        }
    }

    private static void tellWrong(World world, String what) {
        wrong++;
        if (wrong <= 40) {
            System.out.println(what + "; before it: " + world.script);
        }
    }
}
