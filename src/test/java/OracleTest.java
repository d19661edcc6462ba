import java.math.BigInteger;
import java.util.ArrayList;
import java.util.HashSet;
import java.util.List;
import java.util.Random;
import java.util.Set;
import java.util.TreeMap;
import java.util.TreeSet;

/**
 * Long runs of calls, drawn from a fixed seed, against a slow model that takes the document's words literally:
 * fractions without bounds, bins and means case by case, pools joined in any order, flat by least and greatest
 * means, lines by the set of all lines.
 */
public final class OracleTest {
    private static final int RUNS = 1500;
    private static final int CALLS = 512;

    private static Lines allLines;

    public static void main(String[] args) {
        allLines = new Lines();
        int wrong = 0;
        for (int run = 0; run < RUNS && wrong < 20; run++) {
            wrong += compare(run);
        }
        System.out.println(RUNS + " runs, " + wrong + " wrong");
        if (wrong != 0) {
            System.exit(1);
        }
    }

    /** 1, if an answer of the run is wrong. */
    private static int compare(int run) {
        Random random = new Random(run * 7919L + 13);
        ToldChances x = new ToldChances();
        Model model = new Model(random);
        Caller caller = new Caller(random);
        for (int i = 0; i < CALLS; i++) {
            int[] call = caller.next();
            long got = Caller.onClass(x, call);
            long want = Caller.onModel(model, call);
            if (got != want) {
                System.out.println("run " + run + ", call " + i + ": " + Caller.nameOf(call) + " answered " + got
                        + ", due is " + want);
                return 1;
            }
        }
        return 0;
    }

    /** Every line there is, and every beginning of one. */
    private static final class Lines {
        final Set<String> whole = new HashSet<>();
        final Set<String> beginnings = new HashSet<>();

        Lines() {
            int[][] limits = {{3, 39, 100}, {3, 39}, {39}, {39}, {39}, {3, 9}};
            String[] words = {"tell", "drop", "yes", "no", "open", "weigh"};
            for (int i = 0; i < words.length; i++) {
                List<String> texts = new ArrayList<>(List.of(words[i]));
                addBeginnings("", words[i]);
                for (int limit : limits[i]) {
                    texts = longer(texts, limit);
                }
                whole.addAll(texts);
            }
        }

        private List<String> longer(List<String> texts, int limit) {
            List<String> numbers = new ArrayList<>();
            for (int value = 0; value <= limit; value++) {
                for (String text = Integer.toString(value); text.length() <= 3; text = "0" + text) {
                    numbers.add(" " + text);
                }
            }
            List<String> longer = new ArrayList<>();
            for (String text : texts) {
                for (String number : numbers) {
                    addBeginnings(text, number);
                    longer.add(text + number);
                }
            }
            return longer;
        }

        private void addBeginnings(String text, String more) {
            for (int i = 1; i <= more.length(); i++) {
                beginnings.add(text + more.substring(0, i));
            }
        }

        int firstFault(String tape) {
            for (int i = 0; i < tape.length(); i++) {
                if (!beginnings.contains(tape.substring(0, i + 1))) {
                    return i;
                }
            }
            return tape.length();
        }
    }

    /** Draws calls, and makes them on the class or on the model. */
    private static final class Caller {
        private static final String[] NAMES = {"tell", "drop", "yes", "no", "open", "weigh", "told", "came", "key",
            "wipe", "line", "rule", "miss", "score", "rank", "lure", "honest", "cut", "bin", "split", "joined", "area",
            "pools", "pool", "flat", "better", "luck", "report", "many"};
        private static final int[] SHARES = {30, 4, 10, 10, 3, 3, 3, 1, 3, 1, 3, 2, 1, 4, 4, 1, 1, 4, 5, 9, 4, 4, 2, 5,
            4, 4, 5, 8, 2};

        private final Random random;
        private final int chanceKind;
        private final int events;
        private String keys = "";
        private int afterKeys = 10;
        private int filled;

        Caller(Random random) {
            this.random = random;
            chanceKind = random.nextInt(3);
            events = random.nextInt(3) == 0 ? 40 : 1 + random.nextInt(40);
            filled = random.nextInt(2) * 240;
        }

        int[] next() {
            if (!keys.isEmpty()) {
                int code = keys.charAt(0);
                keys = keys.substring(1);
                return new int[] {8, code, 0, 0};
            }
            if (afterKeys >= 0) {
                int call = afterKeys;
                afterKeys = -1;
                return new int[] {call, 0, 0, 0};
            }
            if (filled < 240) {
                filled++;
                return fillingCall(filled - 1);
            }
            int drawn = draw();
            if (drawn == 8 && random.nextInt(3) > 0) {
                planKeys();
                return new int[] {9, 0, 0, 0};
            }
            return withArguments(drawn);
        }

        /** Half of the runs begin with many cases, so that the fractions become great. */
        private int[] fillingCall(int i) {
            if (i < 40) {
                return new int[] {2 + random.nextInt(2), i, 0, 0};
            }
            if (i < 80) {
                return new int[] {0, 0, i - 40, chance()};
            }
            return i < 89 ? new int[] {17, chance(), 0, 0} : withArguments(0);
        }

        private int draw() {
            int all = 0;
            for (int share : SHARES) {
                all += share;
            }
            int left = random.nextInt(all);
            int i = 0;
            while (left >= SHARES[i]) {
                left -= SHARES[i];
                i++;
            }
            return i;
        }

        private void planKeys() {
            if (random.nextInt(3) == 0) {
                String[] words = {"square", "line", "edge", "cube"};
                keys = spoil(words[random.nextInt(4)], 6);
                afterKeys = 11;
                return;
            }
            String[] words = {"tell", "drop", "yes", "no", "open", "weigh"};
            int[] numbers = {3, 2, 1, 1, 1, 2};
            int i = random.nextInt(6);
            StringBuilder text = new StringBuilder(words[i]);
            for (int j = 0; j < numbers[i]; j++) {
                int limit = i == 5 && j == 1 ? 10 : j == 0 && numbers[i] > 1 ? 4 : j == 2 ? 102 : 41;
                String figures = Integer.toString(random.nextInt(limit));
                while (figures.length() < 4 && random.nextInt(4) == 0) {
                    figures = "0" + figures;
                }
                text.append(' ').append(figures);
            }
            keys = spoil(text.toString(), 3);
            afterKeys = 10;
        }

        private String spoil(String text, int oneIn) {
            if (random.nextInt(oneIn) > 0) {
                return text;
            }
            int place = random.nextInt(text.length() + 1);
            String signs = " 0123456789telldropyesnoweigh/:";
            char sign = signs.charAt(random.nextInt(signs.length()));
            switch (random.nextInt(3)) {
                case 0:
                    return text.substring(0, place);
                case 1:
                    return text.substring(0, place) + sign + text.substring(place);
                default:
                    return text.substring(0, place) + sign + (place < text.length() ? text.substring(place + 1) : "");
            }
        }

        private int[] withArguments(int call) {
            switch (call) {
                case 0:
                    return new int[] {0, upTo(3), event(), chance()};
                case 1:
                    return new int[] {1, upTo(3), event(), 0};
                case 2: case 3: case 4: case 7:
                    return new int[] {call, event(), 0, 0};
                case 5:
                    return new int[] {5, upTo(3), upTo(9), 0};
                case 6:
                    return new int[] {6, upTo(4), event(), 0};
                case 8:
                    return new int[] {8, upTo(127), 0, 0};
                case 12:
                    return new int[] {12, chance(), upTo(1), 0};
                case 13: case 21: case 24:
                    return new int[] {call, upTo(4), upTo(1), 0};
                case 14:
                    return new int[] {14, upTo(4), 0, 0};
                case 15:
                    return new int[] {15, upTo(100), 0, 0};
                case 17:
                    return new int[] {17, chance(), 0, 0};
                case 18:
                    return new int[] {18, upTo(4), upTo(9), upTo(4)};
                case 19:
                    return new int[] {19, upTo(4), upTo(5), upTo(1)};
                case 20:
                    return new int[] {20, upTo(4), upTo(8), upTo(1)};
                case 22:
                    return new int[] {22, upTo(4), 0, 0};
                case 23:
                    return new int[] {23, upTo(4), upTo(5), upTo(3)};
                case 25:
                    return new int[] {25, upTo(4), upTo(4), upTo(3)};
                case 26:
                    return new int[] {26, upTo(4), upTo(4), upTo(1)};
                case 27:
                    return new int[] {27, upTo(4), random.nextInt(6) == 0 ? upTo(99) : random.nextInt(40) - 1, 0};
                case 28:
                    return new int[] {28, upTo(5), 0, 0};
                default:
                    return new int[] {call, 0, 0, 0};
            }
        }

        /** Mostly 0 .. limit, at times near it or far from it. */
        private int upTo(int limit) {
            int kind = random.nextInt(60);
            if (kind == 0) {
                return -1 - random.nextInt(2);
            }
            if (kind == 1) {
                return limit + 1 + random.nextInt(2);
            }
            if (kind == 2 && random.nextInt(3) == 0) {
                return random.nextInt();
            }
            return random.nextInt(limit + 1);
        }

        private int event() {
            return random.nextInt(30) == 0 ? upTo(39) : random.nextInt(events);
        }

        private int chance() {
            if (chanceKind == 0) {
                return upTo(100);
            }
            return chanceKind == 1 ? 10 * upTo(10) : 45 + upTo(10);
        }

        static String nameOf(int[] c) {
            return NAMES[c[0]] + "(" + c[1] + ", " + c[2] + ", " + c[3] + ")";
        }

        static long onClass(ToldChances x, int[] c) {
            switch (c[0]) {
                case 0: return x.tell(c[1], c[2], c[3]);
                case 1: return x.drop(c[1], c[2]);
                case 2: return x.yes(c[1]);
                case 3: return x.no(c[1]);
                case 4: return x.open(c[1]);
                case 5: return x.weigh(c[1], c[2]);
                case 6: return x.told(c[1], c[2]);
                case 7: return x.came(c[1]);
                case 8: return x.key(c[1]);
                case 9: return x.wipe();
                case 10: return x.line();
                case 11: return x.rule();
                case 12: return x.miss(c[1], c[2]);
                case 13: return x.score(c[1], c[2]);
                case 14: return x.rank(c[1]);
                case 15: return x.lure(c[1]);
                case 16: return x.honest();
                case 17: return x.cut(c[1]);
                case 18: return x.bin(c[1], c[2], c[3]);
                case 19: return x.split(c[1], c[2], c[3]);
                case 20: return x.joined(c[1], c[2], c[3]);
                case 21: return x.area(c[1], c[2]);
                case 22: return x.pools(c[1]);
                case 23: return x.pool(c[1], c[2], c[3]);
                case 24: return x.flat(c[1], c[2]);
                case 25: return x.better(c[1], c[2], c[3]);
                case 26: return x.luck(c[1], c[2], c[3]);
                case 27: return x.report(c[1], c[2]);
                default: return x.many(c[1]);
            }
        }

        static long onModel(Model m, int[] c) {
            switch (c[0]) {
                case 0: return m.tell(c[1], c[2], c[3]);
                case 1: return m.drop(c[1], c[2]);
                case 2: return m.turn(c[1], 1);
                case 3: return m.turn(c[1], 2);
                case 4: return m.turn(c[1], 0);
                case 5: return m.weigh(c[1], c[2]);
                case 6: return m.told(c[1], c[2]);
                case 7: return m.in(c[1], 39) ? m.came[c[1]] : -1;
                case 8: return m.key(c[1]);
                case 9: return m.wipe();
                case 10: return m.line();
                case 11: return m.rule();
                case 12: return m.in(c[1], 100) && m.in(c[2], 1) ? m.miss(c[1], c[2] == 1) : -2;
                case 13: return m.score(c[1], c[2]);
                case 14: return m.rank(c[1]);
                case 15: return m.in(c[1], 100) ? m.lure(c[1]) : -2;
                case 16: return m.honest();
                case 17: return m.cut(c[1]);
                case 18: return m.bin(c[1], c[2], c[3]);
                case 19: return m.split(c[1], c[2], c[3]);
                case 20: return m.joined(c[1], c[2], c[3]);
                case 21: return m.area(c[1], c[2]);
                case 22: return m.in(c[1], 4) ? m.poolsOf(c[1]).size() : -1;
                case 23: return m.pool(c[1], c[2], c[3]);
                case 24: return m.flat(c[1], c[2]);
                case 25: return m.better(c[1], c[2], c[3]);
                case 26: return m.luck(c[1], c[2], c[3]);
                case 27: return m.report(c[1], c[2]);
                default: return m.many(c[1]);
            }
        }
    }

    /** A fraction without bounds. */
    private static final class Ratio implements Comparable<Ratio> {
        static final Ratio ZERO = of(0, 1);

        final BigInteger upper;
        final BigInteger lower;

        Ratio(BigInteger upper, BigInteger lower) {
            BigInteger shared = upper.gcd(lower);
            BigInteger sign = BigInteger.valueOf(lower.signum());
            this.upper = upper.divide(shared).multiply(sign);
            this.lower = lower.divide(shared).multiply(sign);
        }

        static Ratio of(long upper, long lower) {
            return new Ratio(BigInteger.valueOf(upper), BigInteger.valueOf(lower));
        }

        Ratio plus(Ratio o) {
            return new Ratio(upper.multiply(o.lower).add(o.upper.multiply(lower)), lower.multiply(o.lower));
        }

        Ratio minus(Ratio o) {
            return plus(o.times(of(-1, 1)));
        }

        Ratio times(Ratio o) {
            return new Ratio(upper.multiply(o.upper), lower.multiply(o.lower));
        }

        Ratio by(long divisor) {
            return times(of(1, divisor));
        }

        Ratio squared() {
            return times(this);
        }

        long pick(int which) {
            return (which == 0 ? upper : lower).longValueExact();
        }

        @Override
        public int compareTo(Ratio o) {
            return upper.multiply(o.lower).compareTo(o.upper.multiply(lower));
        }
    }

    /** A chance that was told, and 1 or 0 for what came. */
    private record Case(int event, int chance, int o) {
    }

    /** The document's words, taken literally. */
    private static final class Model {
        private static final long LOST = Long.MIN_VALUE;
        private static final String[] WORDS = {"square", "line", "edge", "cube"};

        private final Random random;
        final int[] came = new int[40];
        private final Integer[][] told = new Integer[4][40];
        private final int[] weights = {1, 1, 1, 1};
        private final TreeSet<Integer> cuts = new TreeSet<>();
        private String tape = "";
        private int rule = 0;

        Model(Random random) {
            this.random = random;
        }

        boolean in(int number, int greatest) {
            return number >= 0 && number <= greatest;
        }

        int tell(int t, int e, int p) {
            if (!in(t, 3) || !in(e, 39)) {
                return -1;
            }
            return in(p, 100) ? swap(t, e, p) : -2;
        }

        int drop(int t, int e) {
            return in(t, 3) && in(e, 39) ? swap(t, e, null) : -1;
        }

        private int swap(int t, int e, Integer p) {
            int before = told[t][e] == null ? -9 : told[t][e];
            told[t][e] = p;
            return before;
        }

        int turn(int e, int to) {
            if (!in(e, 39)) {
                return -1;
            }
            int before = came[e];
            came[e] = to;
            return before;
        }

        int weigh(int t, int w) {
            if (!in(t, 3)) {
                return -1;
            }
            if (!in(w, 9)) {
                return -2;
            }
            int before = weights[t];
            weights[t] = w;
            return before;
        }

        int told(int t, int e) {
            if (!in(t, 4) || !in(e, 39)) {
                return -1;
            }
            Integer chance = chance(t, e);
            return chance == null ? -9 : chance;
        }

        private Integer chance(int t, int e) {
            if (t < 4) {
                return told[t][e];
            }
            double sum = 0;
            int all = 0;
            for (int i = 0; i < 4; i++) {
                if (told[i][e] != null && weights[i] > 0) {
                    sum += weights[i] * told[i][e];
                    all += weights[i];
                }
            }
            // A mean of up to 36 parts is never so near below a half that a double could mistake it.
            return all == 0 ? null : (Integer) (int) Math.floor(sum / all + 0.5);
        }

        int key(int code) {
            if (!in(code, 127)) {
                return -2;
            }
            if (tape.length() == 24) {
                return -4;
            }
            tape += (char) code;
            return tape.length();
        }

        int wipe() {
            int before = tape.length();
            tape = "";
            return before;
        }

        int line() {
            if (!allLines.whole.contains(tape)) {
                return -100 - allLines.firstFault(tape);
            }
            String[] parts = tape.split(" ");
            tape = "";
            int[] n = new int[3];
            for (int i = 1; i < parts.length; i++) {
                n[i - 1] = Integer.parseInt(parts[i]);
            }
            switch (parts[0]) {
                case "tell": return 1000 + tell(n[0], n[1], n[2]);
                case "drop": return 1000 + drop(n[0], n[1]);
                case "yes": return 1000 + turn(n[0], 1);
                case "no": return 1000 + turn(n[0], 2);
                case "open": return 1000 + turn(n[0], 0);
                default: return 1000 + weigh(n[0], n[1]);
            }
        }

        int rule() {
            int found = List.of(WORDS).indexOf(tape);
            if (found >= 0) {
                rule = found;
                tape = "";
            }
            return found;
        }

        int miss(int p, boolean yes) {
            int c = yes ? 100 : 0;
            switch (rule) {
                case 0: return (p - c) * (p - c);
                case 1: return Math.abs(p - c);
                case 2: return p == 50 ? 50 : (p < 50) != (c < 50) ? 100 : 0;
                default: return Math.abs((p - c) * (p - c) * (p - c));
            }
        }

        private List<Case> casesOf(int t) {
            List<Case> cases = new ArrayList<>();
            for (int e = 0; e < 40; e++) {
                if (came[e] != 0 && chance(t, e) != null) {
                    cases.add(new Case(e, chance(t, e), came[e] == 1 ? 1 : 0));
                }
            }
            return cases;
        }

        private Ratio meanMiss(List<Case> cases) {
            Ratio sum = Ratio.ZERO;
            for (Case c : cases) {
                sum = sum.plus(Ratio.of(miss(c.chance, c.o == 1), 1));
            }
            return sum.by(cases.size());
        }

        private boolean lost(int t, int which) {
            return !in(t, 4) || !in(which, 1) || casesOf(t).isEmpty();
        }

        long score(int t, int which) {
            return lost(t, which) ? LOST : meanMiss(casesOf(t)).pick(which);
        }

        int rank(int k) {
            List<Integer> tellers = new ArrayList<>();
            for (int t = 0; t <= 4; t++) {
                if (!casesOf(t).isEmpty()) {
                    tellers.add(t);
                }
            }
            tellers.sort((a, b) -> meanMiss(casesOf(a)).compareTo(meanMiss(casesOf(b))));
            return in(k, tellers.size() - 1) ? tellers.get(k) : -1;
        }

        private long believed(int b, int p) {
            return (long) b * miss(p, true) + (100L - b) * miss(p, false);
        }

        int lure(int b) {
            int best = 100;
            for (int p = 100; p >= 0; p--) {
                if (believed(b, p) <= believed(b, best)) {
                    best = p;
                }
            }
            return best;
        }

        int honest() {
            int count = 0;
            for (int b = 0; b <= 100; b++) {
                boolean least = true;
                for (int p = 0; p <= 100; p++) {
                    least &= believed(b, b) <= believed(b, p);
                }
                count += least ? 1 : 0;
            }
            return count;
        }

        int cut(int c) {
            if (c < 1 || c > 100) {
                return -2;
            }
            if (!cuts.remove(c)) {
                if (cuts.size() == 9) {
                    return -4;
                }
                cuts.add(c);
            }
            return cuts.size();
        }

        private int binOf(int chance) {
            return cuts.headSet(chance, true).size();
        }

        private List<List<Case>> binsOf(int t) {
            List<List<Case>> bins = new ArrayList<>();
            for (int k = 0; k <= cuts.size(); k++) {
                bins.add(new ArrayList<>());
            }
            for (Case c : casesOf(t)) {
                bins.get(binOf(c.chance)).add(c);
            }
            return bins;
        }

        int bin(int t, int k, int what) {
            if (!in(t, 4) || !in(k, cuts.size())) {
                return -1;
            }
            if (!in(what, 4)) {
                return -2;
            }
            if (what >= 3) {
                int found = -1;
                for (int p = 0; p <= 100; p++) {
                    if (binOf(p) == k && (what == 4 || found < 0)) {
                        found = p;
                    }
                }
                return found;
            }
            int sum = 0;
            for (Case c : binsOf(t).get(k)) {
                sum += what == 0 ? 1 : what == 1 ? c.o : c.chance;
            }
            return sum;
        }

        private static Ratio shareOf(List<Case> cases) {
            int sum = 0;
            for (Case c : cases) {
                sum += c.o;
            }
            return Ratio.of(sum, cases.size());
        }

        private static Ratio meanChance(List<Case> cases) {
            int sum = 0;
            for (Case c : cases) {
                sum += c.chance;
            }
            return Ratio.of(sum, 100L * cases.size());
        }

        private static Ratio part(int part, List<List<Case>> bins) {
            List<Case> all = new ArrayList<>();
            for (List<Case> bin : bins) {
                all.addAll(bin);
            }
            Ratio share = shareOf(all);
            if (part == 0) {
                return share.times(Ratio.of(1, 1).minus(share));
            }
            Ratio sum = Ratio.ZERO;
            for (List<Case> bin : bins) {
                if (bin.isEmpty()) {
                    continue;
                }
                Ratio p = meanChance(bin);
                Ratio o = shareOf(bin);
                for (Case c : bin) {
                    Ratio byChance = Ratio.of(c.chance, 100).minus(p);
                    Ratio byCame = Ratio.of(c.o, 1).minus(o);
                    Ratio more = part == 1 ? o.minus(share).squared() : part == 2 ? p.minus(o).squared()
                            : part == 3 ? byChance.squared() : byChance.times(byCame).times(Ratio.of(2, 1));
                    sum = sum.plus(more);
                }
            }
            return sum.by(all.size());
        }

        long split(int t, int part, int which) {
            if (lost(t, which) || !in(part, 5)) {
                return LOST;
            }
            List<List<Case>> bins = binsOf(t);
            if (part < 5) {
                return part(part, bins).pick(which);
            }
            Ratio sum = part(0, bins).minus(part(1, bins)).plus(part(2, bins)).plus(part(3, bins)).minus(part(4, bins));
            Ratio squares = Ratio.ZERO;
            for (Case c : casesOf(t)) {
                squares = squares.plus(Ratio.of(c.chance - 100 * c.o, 100).squared());
            }
            if (sum.compareTo(squares.by(casesOf(t).size())) != 0) {
                System.out.println("the parts are not the squared miss");
                System.exit(1);
            }
            return sum.pick(which);
        }

        long joined(int t, int k, int which) {
            if (lost(t, which) || !in(k, cuts.size() - 1)) {
                return LOST;
            }
            List<List<Case>> bins = binsOf(t);
            Ratio before = part(1, bins);
            bins.get(k).addAll(bins.remove(k + 1));
            return before.minus(part(1, bins)).pick(which);
        }

        long area(int t, int which) {
            if (lost(t, which)) {
                return LOST;
            }
            Ratio sum = Ratio.ZERO;
            int twos = 0;
            for (Case yes : casesOf(t)) {
                for (Case no : casesOf(t)) {
                    if (yes.o == 1 && no.o == 0) {
                        twos++;
                        sum = sum.plus(yes.chance > no.chance ? Ratio.of(1, 1)
                                : yes.chance == no.chance ? Ratio.of(1, 2) : Ratio.ZERO);
                    }
                }
            }
            return twos == 0 ? LOST : sum.by(twos).pick(which);
        }

        private List<List<Case>> byChance(int t) {
            TreeMap<Integer, List<Case>> groups = new TreeMap<>();
            for (Case c : casesOf(t)) {
                groups.computeIfAbsent(c.chance, any -> new ArrayList<>()).add(c);
            }
            return new ArrayList<>(groups.values());
        }

        List<List<Case>> poolsOf(int t) {
            List<List<Case>> pools = byChance(t);
            while (true) {
                List<Integer> wrong = new ArrayList<>();
                for (int k = 0; k + 1 < pools.size(); k++) {
                    if (shareOf(pools.get(k + 1)).compareTo(shareOf(pools.get(k))) <= 0) {
                        wrong.add(k);
                    }
                }
                if (wrong.isEmpty()) {
                    return pools;
                }
                int k = wrong.get(random.nextInt(wrong.size()));
                pools.get(k).addAll(pools.remove(k + 1));
            }
        }

        int pool(int t, int k, int what) {
            if (!in(t, 4) || !in(k, poolsOf(t).size() - 1)) {
                return -1;
            }
            if (!in(what, 3)) {
                return -2;
            }
            int least = 101;
            int greatest = -1;
            int yes = 0;
            List<Case> pool = poolsOf(t).get(k);
            for (Case c : pool) {
                least = Math.min(least, c.chance);
                greatest = Math.max(greatest, c.chance);
                yes += c.o;
            }
            return what == 0 ? least : what == 1 ? greatest : what == 2 ? pool.size() : yes;
        }

        long flat(int t, int which) {
            if (lost(t, which)) {
                return LOST;
            }
            List<List<Case>> groups = byChance(t);
            Ratio sum = Ratio.ZERO;
            for (int i = 0; i < groups.size(); i++) {
                Ratio value = bestValue(groups, i);
                for (Case c : groups.get(i)) {
                    sum = sum.plus(value.minus(Ratio.of(c.o, 1)).squared());
                }
            }
            return sum.by(casesOf(t).size()).pick(which);
        }

        /** The greatest over all beginnings of the least over all ends of the mean between. */
        private static Ratio bestValue(List<List<Case>> groups, int i) {
            Ratio greatest = null;
            for (int from = 0; from <= i; from++) {
                int n = 0;
                int yes = 0;
                Ratio least = null;
                for (int to = from; to < groups.size(); to++) {
                    n += groups.get(to).size();
                    for (Case c : groups.get(to)) {
                        yes += c.o;
                    }
                    if (to >= i && (least == null || (long) yes * least.pick(1) < least.pick(0) * n)) {
                        least = Ratio.of(yes, n);
                    }
                }
                if (greatest == null || least.compareTo(greatest) > 0) {
                    greatest = least;
                }
            }
            return greatest;
        }

        private int[] wins(int t, int u) {
            int[] wins = new int[4];
            for (Case a : casesOf(t)) {
                for (Case b : casesOf(u)) {
                    if (a.event == b.event) {
                        int sign = Integer.signum(miss(a.chance, a.o == 1) - miss(b.chance, b.o == 1));
                        wins[0]++;
                        wins[sign < 0 ? 1 : sign > 0 ? 2 : 3]++;
                    }
                }
            }
            return wins;
        }

        int better(int t, int u, int what) {
            if (!in(t, 4) || !in(u, 4)) {
                return -1;
            }
            return in(what, 3) ? wins(t, u)[what] : -2;
        }

        long luck(int t, int u, int which) {
            if (!in(t, 4) || !in(u, 4) || !in(which, 1)) {
                return LOST;
            }
            int[] wins = wins(t, u);
            int coins = wins[1] + wins[2];
            long[] ways = new long[coins + 1];
            ways[0] = 1;
            for (int coin = 0; coin < coins; coin++) {
                for (int heads = coin + 1; heads > 0; heads--) {
                    ways[heads] += ways[heads - 1];
                }
            }
            long sum = 0;
            long all = 0;
            for (int heads = 0; heads <= coins; heads++) {
                all += ways[heads];
                sum += heads >= wins[1] && heads >= wins[2] ? ways[heads] : 0;
            }
            return Ratio.of(sum, all).pick(which);
        }

        int report(int t, int i) {
            if (!in(t, 4)) {
                return -1;
            }
            if (i < -1 || i > 99) {
                return -2;
            }
            List<Case> cases = casesOf(t);
            StringBuilder text = new StringBuilder("T" + t + " " + WORDS[rule] + " ");
            if (cases.isEmpty()) {
                text.append("-");
            } else {
                text.append(meanMiss(cases).upper).append("/").append(meanMiss(cases).lower);
            }
            text.append(" ");
            for (Case c : cases) {
                boolean right = c.chance > 50 && c.o == 1 || c.chance < 50 && c.o == 0;
                text.append(right ? "+" : c.chance == 50 ? "=" : "-");
            }
            return i == -1 ? text.length() : i < text.length() ? text.charAt(i) : -9;
        }

        int many(int what) {
            int[] counts = new int[6];
            for (int e = 0; e < 40; e++) {
                counts[0] += came[e] == 1 ? 1 : 0;
                counts[1] += came[e] == 2 ? 1 : 0;
                for (int t = 0; t < 4; t++) {
                    counts[2] += told[t][e] != null ? 1 : 0;
                }
            }
            counts[3] = tape.length();
            counts[4] = cuts.size();
            for (int t = 0; t < 4; t++) {
                counts[5] += casesOf(t).size();
            }
            return in(what, 5) ? counts[what] : -2;
        }
    }
}
