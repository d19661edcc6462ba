/**
 * A house that keeps what tellers told and what came, and says how good their chances were.
 *
 * All rows are made in the constructor and used again: no call makes an object.
 */
public final class ToldChances {
    public static final int UNKNOWN = -1, OUTSIDE = -2, STATE = -3, FULL = -4, NONE = -9;
    public static final long LOST = Long.MIN_VALUE;

    private static final int EVENTS = 40;
    private static final int TELLERS = 4;
    private static final int MIX = 4;
    private static final int MOST_CHANCE = 100;
    private static final int MOST_WEIGHT = 9;
    private static final int MOST_CUTS = 9;
    private static final int MOST_CODES = 24;
    private static final int MOST_CODE = 127;
    private static final int MOST_FIGURES = 3;
    private static final int MOST_SIGNS = 100;
    private static final int KINDS_OF_RULE = 4;

    private static final int IS_OPEN = 0;
    private static final int IS_YES = 1;
    private static final int IS_NO = 2;

    private static final int LINE_ANSWER = 1000;
    private static final int LINE_FAULT = -100;
    private static final int BLANK = 32;
    private static final int FIGURE_0 = 48;
    private static final int FIGURE_9 = 57;

    private static final Rule[] RULES = Rule.values();
    private static final Command[] COMMANDS = Command.values();

    private final Book book = new Book();
    private final Tape tape = new Tape();
    private final LineReader reader = new LineReader();
    private final Cases cases = new Cases();
    private final Bins bins = new Bins();
    private final PoolRow poolRow = new PoolRow();
    private final Fraction result = new Fraction();
    private final Fraction addend = new Fraction();
    private final Paper paper = new Paper();
    private final long[] missSums = new long[TELLERS + 1];
    private final int[] caseCounts = new int[TELLERS + 1];
    private final int[] winCounts = new int[3];
    private final int[] honestCounts = new int[KINDS_OF_RULE];
    private Rule current = Rule.SQUARE;

    public ToldChances() {
    }

    // ---- 1 what is told, what came

    public int tell(int t, int e, int p) {
        if (!isPlainTeller(t) || !isEvent(e)) {
            return UNKNOWN;
        }
        if (!isChance(p)) {
            return OUTSIDE;
        }
        return book.swapChance(t, e, p);
    }

    public int drop(int t, int e) {
        if (!isPlainTeller(t) || !isEvent(e)) {
            return UNKNOWN;
        }
        return book.swapChance(t, e, NONE);
    }

    public int yes(int e) {
        return isEvent(e) ? book.swapState(e, IS_YES) : UNKNOWN;
    }

    public int no(int e) {
        return isEvent(e) ? book.swapState(e, IS_NO) : UNKNOWN;
    }

    public int open(int e) {
        return isEvent(e) ? book.swapState(e, IS_OPEN) : UNKNOWN;
    }

    public int weigh(int t, int w) {
        if (!isPlainTeller(t)) {
            return UNKNOWN;
        }
        if (w < 0 || w > MOST_WEIGHT) {
            return OUTSIDE;
        }
        return book.swapWeight(t, w);
    }

    public int told(int t, int e) {
        if (!isTeller(t) || !isEvent(e)) {
            return UNKNOWN;
        }
        return book.chanceOf(t, e);
    }

    public int came(int e) {
        return isEvent(e) ? book.states[e] : UNKNOWN;
    }

    public int key(int code) {
        if (code < 0 || code > MOST_CODE) {
            return OUTSIDE;
        }
        return tape.put(code) ? tape.length : FULL;
    }

    public int wipe() {
        return tape.clear();
    }

    public int line() {
        int fault = 0;
        for (int i = 0; i < COMMANDS.length; i++) {
            int reach = reader.reach(tape, COMMANDS[i]);
            if (reader.whole) {
                tape.clear();
                return perform(COMMANDS[i]) + LINE_ANSWER;
            }
            fault = Math.max(fault, reach);
        }
        return LINE_FAULT - fault;
    }

    private int perform(Command command) {
        int[] numbers = reader.numbers;
        if (command == Command.TELL) {
            return tell(numbers[0], numbers[1], numbers[2]);
        }
        if (command == Command.DROP) {
            return drop(numbers[0], numbers[1]);
        }
        if (command == Command.YES) {
            return yes(numbers[0]);
        }
        if (command == Command.NO) {
            return no(numbers[0]);
        }
        if (command == Command.OPEN) {
            return open(numbers[0]);
        }
        return weigh(numbers[0], numbers[1]);
    }

    // ---- 2 rules

    public int rule() {
        for (int i = 0; i < RULES.length; i++) {
            if (tape.spells(RULES[i].word)) {
                current = RULES[i];
                tape.clear();
                return current.number;
            }
        }
        return UNKNOWN;
    }

    public int miss(int p, int c) {
        if (!isChance(p) || c < 0 || c > 1) {
            return OUTSIDE;
        }
        return current.missOf(p, c == 1);
    }

    public long score(int t, int which) {
        if (!isTeller(t) || !isWhich(which) || !findMeanMiss(t)) {
            return LOST;
        }
        return result.pick(which);
    }

    public int rank(int k) {
        for (int t = 0; t <= TELLERS; t++) {
            cases.gather(book, t);
            caseCounts[t] = cases.count;
            missSums[t] = cases.missSum(current);
        }
        for (int t = 0; t <= TELLERS; t++) {
            if (caseCounts[t] > 0 && tellersAheadOf(t) == k) {
                return t;
            }
        }
        return UNKNOWN;
    }

    public int lure(int b) {
        return isChance(b) ? leastBest(b) : OUTSIDE;
    }

    public int honest() {
        // Counting is dear and hangs on the rule alone; no count is 0, as telling 0 for belief 0 never misses.
        if (honestCounts[current.number] == 0) {
            honestCounts[current.number] = countHonest();
        }
        return honestCounts[current.number];
    }

    private boolean findMeanMiss(int t) {
        cases.gather(book, t);
        if (cases.count == 0) {
            return false;
        }
        result.become(cases.missSum(current), cases.count);
        return true;
    }

    private int tellersAheadOf(int t) {
        int ahead = 0;
        for (int u = 0; u <= TELLERS; u++) {
            if (u != t && caseCounts[u] > 0) {
                // Means are compared crosswise, so that no division rounds.
                long other = missSums[u] * caseCounts[t];
                long own = missSums[t] * caseCounts[u];
                if (other < own || (other == own && u < t)) {
                    ahead++;
                }
            }
        }
        return ahead;
    }

    private int leastBest(int belief) {
        int best = 0;
        int least = believedMiss(belief, 0);
        for (int p = 1; p <= MOST_CHANCE; p++) {
            int sum = believedMiss(belief, p);
            if (sum < least) {
                least = sum;
                best = p;
            }
        }
        return best;
    }

    private int countHonest() {
        int count = 0;
        for (int b = 0; b <= MOST_CHANCE; b++) {
            if (believedMiss(b, b) == believedMiss(b, leastBest(b))) {
                count++;
            }
        }
        return count;
    }

    private int believedMiss(int belief, int p) {
        return belief * current.missOf(p, true) + (MOST_CHANCE - belief) * current.missOf(p, false);
    }

    // ---- 3 parts, ranks, pools

    public int cut(int c) {
        if (c < 1 || c > MOST_CHANCE) {
            return OUTSIDE;
        }
        return bins.flipCut(c) ? bins.cutCount : FULL;
    }

    public int bin(int t, int k, int what) {
        if (!isTeller(t) || !bins.hasBin(k)) {
            return UNKNOWN;
        }
        if (what < 0 || what > 4) {
            return OUTSIDE;
        }
        if (what == 3) {
            return bins.leastOf(k);
        }
        if (what == 4) {
            return bins.greatestOf(k);
        }
        cases.gather(book, t);
        bins.sortIn(cases);
        if (what == 0) {
            return bins.counts[k];
        }
        return what == 1 ? bins.yeses[k] : bins.sums[k];
    }

    public long split(int t, int part, int which) {
        if (!isTeller(t) || part < 0 || part > 5 || !isWhich(which) || !sortCases(t)) {
            return LOST;
        }
        if (part == 5) {
            joinParts();
        } else {
            bins.findPart(part, cases, result);
        }
        return result.pick(which);
    }

    public long joined(int t, int k, int which) {
        if (!isTeller(t) || !bins.hasBin(k) || k == bins.cutCount || !isWhich(which) || !sortCases(t)) {
            return LOST;
        }
        bins.findJoinLoss(k, cases, result);
        return result.pick(which);
    }

    public long area(int t, int which) {
        if (!isTeller(t) || !isWhich(which)) {
            return LOST;
        }
        cases.gather(book, t);
        int noes = cases.count - cases.yesCount;
        if (cases.yesCount == 0 || noes == 0) {
            return LOST;
        }
        result.become(cases.halvesWellRanked(), 2L * cases.yesCount * noes);
        return result.pick(which);
    }

    public int pools(int t) {
        if (!isTeller(t)) {
            return UNKNOWN;
        }
        cases.gather(book, t);
        poolRow.fill(cases);
        return poolRow.count;
    }

    public int pool(int t, int k, int what) {
        if (!isTeller(t)) {
            return UNKNOWN;
        }
        cases.gather(book, t);
        poolRow.fill(cases);
        if (k < 0 || k >= poolRow.count) {
            return UNKNOWN;
        }
        if (what < 0 || what > 3) {
            return OUTSIDE;
        }
        return poolRow.tellOf(k, what);
    }

    public long flat(int t, int which) {
        if (!isTeller(t) || !isWhich(which)) {
            return LOST;
        }
        cases.gather(book, t);
        if (cases.count == 0) {
            return LOST;
        }
        poolRow.fill(cases);
        poolRow.findFlat(cases.count, result);
        return result.pick(which);
    }

    public int better(int t, int u, int what) {
        if (!isTeller(t) || !isTeller(u)) {
            return UNKNOWN;
        }
        if (what < 0 || what > 3) {
            return OUTSIDE;
        }
        countWins(t, u);
        if (what == 0) {
            return winCounts[0] + winCounts[1] + winCounts[2];
        }
        return winCounts[what - 1];
    }

    public long luck(int t, int u, int which) {
        if (!isTeller(t) || !isTeller(u) || !isWhich(which)) {
            return LOST;
        }
        countWins(t, u);
        int coins = winCounts[0] + winCounts[1];
        int heads = Math.max(winCounts[0], winCounts[1]);
        result.become(waysWithAtLeast(heads, coins), 1L << coins);
        return result.pick(which);
    }

    private boolean sortCases(int t) {
        cases.gather(book, t);
        if (cases.count == 0) {
            return false;
        }
        bins.sortIn(cases);
        return true;
    }

    private void joinParts() {
        result.become(0, 1);
        for (int i = 0; i < 5; i++) {
            bins.findPart(i, cases, addend);
            boolean taken = i == Bins.SHARPNESS || i == Bins.LEAN;
            result.add(taken ? -addend.upper : addend.upper, addend.lower);
        }
    }

    /** Wins of the first one, wins of the second one, and neither, over the cases of both. */
    private void countWins(int t, int u) {
        winCounts[0] = 0;
        winCounts[1] = 0;
        winCounts[2] = 0;
        for (int e = 0; e < EVENTS; e++) {
            if (book.isCase(t, e) && book.isCase(u, e)) {
                boolean happened = book.states[e] == IS_YES;
                int first = current.missOf(book.chanceOf(t, e), happened);
                int second = current.missOf(book.chanceOf(u, e), happened);
                int winner = first < second ? 0 : first > second ? 1 : 2;
                winCounts[winner]++;
            }
        }
    }

    private static long waysWithAtLeast(int heads, int coins) {
        long ways = 1;
        long sum = 0;
        // From all heads downwards, each step of the row of Pascal from the one before.
        for (int k = coins; k >= heads && k >= 0; k--) {
            sum += ways;
            ways = ways * k / (coins - k + 1);
        }
        return sum;
    }

    // ---- 4 reports

    public int report(int t, int i) {
        if (!isTeller(t)) {
            return UNKNOWN;
        }
        if (i < -1 || i >= MOST_SIGNS) {
            return OUTSIDE;
        }
        writeReport(t);
        if (i == -1) {
            return paper.length;
        }
        return i < paper.length ? paper.signs[i] : NONE;
    }

    public int many(int what) {
        switch (what) {
            case 0:
                return book.countState(IS_YES);
            case 1:
                return book.countState(IS_NO);
            case 2:
                return book.countTold();
            case 3:
                return tape.length;
            case 4:
                return bins.cutCount;
            case 5:
                return book.countCases();
            default:
                return OUTSIDE;
        }
    }

    private void writeReport(int t) {
        paper.clear();
        paper.put('T');
        paper.put(FIGURE_0 + t);
        paper.put(BLANK);
        paper.putWord(current.word);
        paper.put(BLANK);
        if (findMeanMiss(t)) {
            paper.putNumber(result.upper);
            paper.put('/');
            paper.putNumber(result.lower);
        } else {
            paper.put('-');
        }
        paper.put(BLANK);
        for (int i = 0; i < cases.count; i++) {
            paper.put(signOf(cases.chances[i], cases.isYes[i]));
        }
    }

    private static int signOf(int chance, boolean happened) {
        if (chance == 50) {
            return '=';
        }
        return (chance > 50) == happened ? '+' : '-';
    }

    // ---- what is looked at ahead of every call

    private static boolean isPlainTeller(int t) {
        return t >= 0 && t < TELLERS;
    }

    private static boolean isTeller(int t) {
        return t >= 0 && t <= MIX;
    }

    private static boolean isEvent(int e) {
        return e >= 0 && e < EVENTS;
    }

    private static boolean isChance(int p) {
        return p >= 0 && p <= MOST_CHANCE;
    }

    private static boolean isWhich(int which) {
        return which == 0 || which == 1;
    }

    /** By what a chance misses what came. */
    private enum Rule {
        SQUARE(0, "square"), LINE(1, "line"), EDGE(2, "edge"), CUBE(3, "cube");

        final int number;
        final String word;

        Rule(int number, String word) {
            this.number = number;
            this.word = word;
        }

        int missOf(int chance, boolean happened) {
            int far = happened ? MOST_CHANCE - chance : chance;
            if (this == SQUARE) {
                return far * far;
            }
            if (this == LINE) {
                return far;
            }
            if (this == CUBE) {
                return far * far * far;
            }
            if (far == 50) {
                return 50;
            }
            return far > 50 ? 100 : 0;
        }
    }

    /** A word that begins a line, with the greatest of each number behind it. */
    private enum Command {
        TELL("tell", 3, TELLERS - 1, EVENTS - 1, MOST_CHANCE),
        DROP("drop", 2, TELLERS - 1, EVENTS - 1, 0),
        YES("yes", 1, EVENTS - 1, 0, 0),
        NO("no", 1, EVENTS - 1, 0, 0),
        OPEN("open", 1, EVENTS - 1, 0, 0),
        WEIGH("weigh", 2, TELLERS - 1, MOST_WEIGHT, 0);

        final String word;
        final int numbers;
        private final int first;
        private final int second;
        private final int third;

        Command(String word, int numbers, int first, int second, int third) {
            this.word = word;
            this.numbers = numbers;
            this.first = first;
            this.second = second;
            this.third = third;
        }

        int greatest(int index) {
            return index == 0 ? first : index == 1 ? second : third;
        }
    }

    /** An exact fraction, always in least terms with a lower number above 0. */
    private static final class Fraction {
        // Euclid's steps on two longs are fewer than this.
        private static final int MOST_STEPS = 100;

        long upper = 0;
        long lower = 1;

        void become(long newUpper, long newLower) {
            long shared = sharedBy(Math.abs(newUpper), newLower);
            if (newLower > 0 && shared > 0) {
                upper = newUpper / shared;
                lower = newLower / shared;
            }
        }

        void add(long otherUpper, long otherLower) {
            long shared = sharedBy(lower, otherLower);
            if (shared > 0) {
                // Over the least shared lower number the products stay within a long.
                long scale = otherLower / shared;
                become(upper * scale + otherUpper * (lower / shared), lower * scale);
            }
        }

        void divideBy(long divisor) {
            become(upper, lower * divisor);
        }

        long pick(int which) {
            return which == 0 ? upper : lower;
        }

        /** The greatest divisor of both. */
        private static long sharedBy(long a, long b) {
            long left = a;
            long right = b;
            for (int i = 0; i < MOST_STEPS && right != 0; i++) {
                long rest = left % right;
                left = right;
                right = rest;
            }
            return left;
        }
    }

    /** What each teller tells and weighs, and what the events are. */
    private static final class Book {
        private final int[] chances = new int[TELLERS * EVENTS];
        private final int[] weights = new int[TELLERS];
        final int[] states = new int[EVENTS];

        Book() {
            for (int i = 0; i < chances.length; i++) {
                chances[i] = NONE;
            }
            for (int t = 0; t < weights.length; t++) {
                weights[t] = 1;
            }
        }

        int swapChance(int t, int e, int chance) {
            int before = chances[t * EVENTS + e];
            chances[t * EVENTS + e] = chance;
            return before;
        }

        int swapState(int e, int state) {
            int before = states[e];
            states[e] = state;
            return before;
        }

        int swapWeight(int t, int weight) {
            int before = weights[t];
            weights[t] = weight;
            return before;
        }

        int chanceOf(int t, int e) {
            return t == MIX ? mixedChance(e) : chances[t * EVENTS + e];
        }

        private int mixedChance(int e) {
            int sum = 0;
            int together = 0;
            for (int t = 0; t < TELLERS; t++) {
                int chance = chances[t * EVENTS + e];
                if (chance != NONE) {
                    sum += weights[t] * chance;
                    together += weights[t];
                }
            }
            if (together == 0) {
                return NONE;
            }
            // Twice over, so that a half is a whole number and goes up.
            return (2 * sum + together) / (2 * together);
        }

        boolean isCase(int t, int e) {
            return states[e] != IS_OPEN && chanceOf(t, e) != NONE;
        }

        int countState(int state) {
            int count = 0;
            for (int e = 0; e < EVENTS; e++) {
                if (states[e] == state) {
                    count++;
                }
            }
            return count;
        }

        int countTold() {
            int count = 0;
            for (int i = 0; i < chances.length; i++) {
                if (chances[i] != NONE) {
                    count++;
                }
            }
            return count;
        }

        int countCases() {
            int count = 0;
            for (int t = 0; t < TELLERS; t++) {
                for (int e = 0; e < EVENTS; e++) {
                    if (isCase(t, e)) {
                        count++;
                    }
                }
            }
            return count;
        }
    }

    /** The codes that were keyed in. */
    private static final class Tape {
        private final int[] codes = new int[MOST_CODES];
        int length = 0;

        boolean put(int code) {
            if (length >= codes.length) {
                return false;
            }
            codes[length] = code;
            length++;
            return true;
        }

        int clear() {
            int before = length;
            length = 0;
            return before;
        }

        /** The code at a place, or NONE behind the end. */
        int codeAt(int place) {
            return place >= 0 && place < length ? codes[place] : NONE;
        }

        boolean spells(String word) {
            return length == word.length() && sharedWith(word) == length;
        }

        /** How many codes from the beginning on are those of the word. */
        int sharedWith(String word) {
            int shared = 0;
            while (shared < word.length() && codeAt(shared) == word.charAt(shared)) {
                shared++;
            }
            return shared;
        }
    }

    /** Reads the tape as the line of one command. */
    private static final class LineReader {
        final int[] numbers = new int[3];
        boolean whole = false;
        private int place = 0;

        /** How many codes from the beginning on are those of a line of this command. */
        int reach(Tape tape, Command command) {
            whole = false;
            place = tape.sharedWith(command.word);
            if (place < command.word.length()) {
                return place;
            }
            for (int i = 0; i < command.numbers && i < numbers.length; i++) {
                if (tape.codeAt(place) != BLANK) {
                    return place;
                }
                place++;
                if (!readNumber(tape, i, command.greatest(i))) {
                    return place;
                }
            }
            whole = place == tape.length;
            return place;
        }

        /** Stops at the first code that cannot belong to the number; false, if none of it can stand. */
        private boolean readNumber(Tape tape, int index, int greatest) {
            int value = 0;
            for (int figures = 0; figures < MOST_FIGURES; figures++) {
                int code = tape.codeAt(place);
                if (code < FIGURE_0 || code > FIGURE_9) {
                    numbers[index] = value;
                    return figures > 0;
                }
                value = value * 10 + code - FIGURE_0;
                if (value > greatest) {
                    return false;
                }
                place++;
            }
            numbers[index] = value;
            return true;
        }
    }

    /** The cases of one teller, by the number of the event. */
    private static final class Cases {
        final int[] chances = new int[EVENTS];
        final boolean[] isYes = new boolean[EVENTS];
        int count = 0;
        int yesCount = 0;

        void gather(Book book, int t) {
            count = 0;
            yesCount = 0;
            for (int e = 0; e < EVENTS; e++) {
                if (book.isCase(t, e)) {
                    chances[count] = book.chanceOf(t, e);
                    isYes[count] = book.states[e] == IS_YES;
                    if (isYes[count]) {
                        yesCount++;
                    }
                    count++;
                }
            }
        }

        long missSum(Rule rule) {
            long sum = 0;
            for (int i = 0; i < count; i++) {
                sum += rule.missOf(chances[i], isYes[i]);
            }
            return sum;
        }

        /** Over all twos of a yes and a no: 2 for one well ranked, 1 for the same chance. */
        long halvesWellRanked() {
            long halves = 0;
            for (int i = 0; i < count; i++) {
                for (int j = 0; j < count; j++) {
                    if (isYes[i] && !isYes[j]) {
                        halves += 1 + Integer.compare(chances[i], chances[j]);
                    }
                }
            }
            return halves;
        }
    }

    /** The cuts, in order, and what cases are in the bins between them. */
    private static final class Bins {
        static final int DOUBT = 0;
        static final int SHARPNESS = 1;
        static final int HONESTY = 2;
        static final int SPREAD = 3;
        static final int LEAN = 4;

        private final int[] cuts = new int[MOST_CUTS];
        int cutCount = 0;
        final int[] counts = new int[MOST_CUTS + 1];
        final int[] yeses = new int[MOST_CUTS + 1];
        final int[] sums = new int[MOST_CUTS + 1];
        private final int[] squareSums = new int[MOST_CUTS + 1];
        private final int[] yesSums = new int[MOST_CUTS + 1];

        /** False, if there is no room for one more. */
        boolean flipCut(int c) {
            int place = binOf(c);
            if (place > 0 && cuts[place - 1] == c) {
                removeCut(place - 1);
                return true;
            }
            if (cutCount >= MOST_CUTS) {
                return false;
            }
            insertCut(place, c);
            return true;
        }

        private void insertCut(int place, int c) {
            for (int i = cutCount; i > place; i--) {
                cuts[i] = cuts[i - 1];
            }
            cuts[place] = c;
            cutCount++;
        }

        private void removeCut(int place) {
            cutCount--;
            for (int i = place; i < cutCount; i++) {
                cuts[i] = cuts[i + 1];
            }
        }

        boolean hasBin(int k) {
            return k >= 0 && k <= cutCount;
        }

        int binOf(int chance) {
            int bin = 0;
            while (bin < cutCount && cuts[bin] <= chance) {
                bin++;
            }
            return bin;
        }

        int leastOf(int k) {
            return k == 0 ? 0 : cuts[k - 1];
        }

        int greatestOf(int k) {
            return k == cutCount ? MOST_CHANCE : cuts[k] - 1;
        }

        void sortIn(Cases cases) {
            for (int k = 0; k < counts.length; k++) {
                counts[k] = 0;
                yeses[k] = 0;
                sums[k] = 0;
                squareSums[k] = 0;
                yesSums[k] = 0;
            }
            for (int i = 0; i < cases.count; i++) {
                int chance = cases.chances[i];
                int k = binOf(chance);
                counts[k]++;
                sums[k] += chance;
                squareSums[k] += chance * chance;
                if (cases.isYes[i]) {
                    yeses[k]++;
                    yesSums[k] += chance;
                }
            }
        }

        /** A part of the cases that were sorted in; there must be some. */
        void findPart(int part, Cases cases, Fraction answer) {
            long all = cases.count;
            long allYes = cases.yesCount;
            if (part == DOUBT) {
                answer.become(allYes * (all - allYes), all * all);
                return;
            }
            answer.become(0, 1);
            for (int k = 0; k <= cutCount; k++) {
                if (counts[k] > 0) {
                    answer.add(binTerm(part, k, all, allYes), counts[k]);
                }
            }
            answer.divideBy(scaleOf(part, all));
        }

        /** What a bin adds to a part, times its count and the part's scale, which makes it whole. */
        private long binTerm(int part, int k, long all, long allYes) {
            long count = counts[k];
            long yes = yeses[k];
            long sum = sums[k];
            if (part == SHARPNESS) {
                return squared(yes * all - allYes * count);
            }
            if (part == HONESTY) {
                return squared(sum - MOST_CHANCE * yes);
            }
            if (part == SPREAD) {
                return count * squareSums[k] - sum * sum;
            }
            return 2 * (count * yesSums[k] - sum * yes);
        }

        private static long scaleOf(int part, long all) {
            if (part == SHARPNESS) {
                return all * all * all;
            }
            return part == LEAN ? MOST_CHANCE * all : MOST_CHANCE * MOST_CHANCE * all;
        }

        /** What sharpness loses, if bin k and the next one are one. */
        void findJoinLoss(int k, Cases cases, Fraction answer) {
            long count = counts[k];
            long nextCount = counts[k + 1];
            // An empty bin has no share of its own to lose.
            if (count == 0 || nextCount == 0) {
                answer.become(0, 1);
                return;
            }
            answer.become(squared(yeses[k] * nextCount - yeses[k + 1] * count),
                    count * nextCount * (count + nextCount) * cases.count);
        }

        private static long squared(long number) {
            return number * number;
        }
    }

    /** The pools of cases, from the least chance on. */
    private static final class PoolRow {
        private final int[] countsByChance = new int[MOST_CHANCE + 1];
        private final int[] yesesByChance = new int[MOST_CHANCE + 1];
        private final int[] least = new int[EVENTS];
        private final int[] greatest = new int[EVENTS];
        private final int[] counts = new int[EVENTS];
        private final int[] yeses = new int[EVENTS];
        int count = 0;

        void fill(Cases cases) {
            sortByChance(cases);
            count = 0;
            for (int chance = 0; chance <= MOST_CHANCE; chance++) {
                if (countsByChance[chance] > 0 && count < EVENTS) {
                    addPool(chance);
                }
            }
        }

        private void sortByChance(Cases cases) {
            for (int chance = 0; chance <= MOST_CHANCE; chance++) {
                countsByChance[chance] = 0;
                yesesByChance[chance] = 0;
            }
            for (int i = 0; i < cases.count; i++) {
                int chance = cases.chances[i];
                countsByChance[chance]++;
                if (cases.isYes[i]) {
                    yesesByChance[chance]++;
                }
            }
        }

        private void addPool(int chance) {
            least[count] = chance;
            greatest[count] = chance;
            counts[count] = countsByChance[chance];
            yeses[count] = yesesByChance[chance];
            count++;
            // Only the last pool is new, so only it can be out of order with the one below.
            for (int upper = count - 1; upper > 0 && !isShareGreater(upper); upper--) {
                mergeDown(upper);
            }
        }

        private boolean isShareGreater(int upper) {
            return yeses[upper] * counts[upper - 1] > yeses[upper - 1] * counts[upper];
        }

        private void mergeDown(int upper) {
            greatest[upper - 1] = greatest[upper];
            counts[upper - 1] += counts[upper];
            yeses[upper - 1] += yeses[upper];
            count--;
        }

        int tellOf(int k, int what) {
            if (what == 0) {
                return least[k];
            }
            if (what == 1) {
                return greatest[k];
            }
            return what == 2 ? counts[k] : yeses[k];
        }

        /** The squared miss, if each case of a pool gets the pool's share of yes. */
        void findFlat(int all, Fraction answer) {
            answer.become(0, 1);
            for (int k = 0; k < count; k++) {
                answer.add((long) yeses[k] * (counts[k] - yeses[k]), counts[k]);
            }
            answer.divideBy(all);
        }
    }

    /** The signs of a report. */
    private static final class Paper {
        private static final int MOST_FIGURES_OF_LONG = 19;

        final int[] signs = new int[MOST_SIGNS];
        int length = 0;

        void clear() {
            length = 0;
        }

        void put(int sign) {
            if (length < signs.length) {
                signs[length] = sign;
                length++;
            }
        }

        void putWord(String word) {
            for (int i = 0; i < word.length(); i++) {
                put(word.charAt(i));
            }
        }

        /** A number that is not below 0. */
        void putNumber(long number) {
            long power = 1;
            for (int i = 1; i < MOST_FIGURES_OF_LONG && number / power >= 10; i++) {
                power *= 10;
            }
            for (int i = 0; i < MOST_FIGURES_OF_LONG && power > 0; i++) {
                put(FIGURE_0 + (int) (number / power % 10));
                power /= 10;
            }
        }
    }
}
