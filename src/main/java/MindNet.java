/**
 * People with numbers for thoughts who listen to one another: rounds, groups, shares, rest and talks.
 * The document MindNet tells what each call promises; words in capitals there are names here.
 */
public final class MindNet {
    public static final int UNKNOWN = -1, OUTSIDE = -2, STATE = -3, FULL = -4, NO = -5, NONE = -6, SPENT = -7;
    public static final long LOST = -1000000000000000000L;

    private static final int MOST_PEOPLE = 12;
    private static final int MOST_THOUGHT = 1000;
    private static final int MOST_WEIGHT = 9;
    private static final int MOST_ROUNDS = 300;
    private static final int MOST_WIDENING = 30;
    private static final int LEAST_SHARING = 2;
    private static final int MOST_SOLVED = 6;
    private static final int LEAST_TALKING = 2;
    private static final int MOST_TALKING = 4;
    private static final int MOST_KINDS = 500;
    /** Euclid's steps on two longs stay below a hundred. */
    private static final int MOST_STEPS = 200;

    private final People people;
    private final Rounds rounds;
    private final Links links;
    private final Kept kept;
    private final Shares shares;
    private final Rests rests;
    private final TalkSearch search;

    public MindNet() {
        people = new People();
        rounds = new Rounds();
        links = new Links();
        kept = new Kept();
        shares = new Shares();
        rests = new Rests();
        search = new TalkSearch();
    }

    // ---- 1 people, rounds

    public int one(int thought) {
        return isThought(thought) ? people.join(thought) : OUTSIDE;
    }

    public int think(int one, int thought) {
        if (!people.has(one)) {
            return UNKNOWN;
        }
        if (!isThought(thought)) {
            return OUTSIDE;
        }
        int before = people.thoughtOf(one);
        people.rethink(one, thought);
        return before;
    }

    public int stubborn(int one, boolean is) {
        if (!people.has(one)) {
            return UNKNOWN;
        }
        int before = people.isStubborn(one) ? 1 : 0;
        people.makeStubborn(one, is);
        return before;
    }

    public int weight(int one, int other, int w) {
        if (!people.has(one) || !people.has(other)) {
            return UNKNOWN;
        }
        if (!isFrom(w, 0, MOST_WEIGHT)) {
            return OUTSIDE;
        }
        int before = people.weightOf(one, other);
        people.weigh(one, other, w);
        return before;
    }

    public int ear(int width) {
        if (!isThought(width)) {
            return OUTSIDE;
        }
        int before = people.earWidth();
        people.openEars(width);
        return before;
    }

    public int rounds(int n) {
        return isFrom(n, 1, MOST_ROUNDS) ? rounds.runMany(people, n) : OUTSIDE;
    }

    public int settle() {
        return rounds.runTillStill(people);
    }

    public int about(int one, int what) {
        if (!people.has(one)) {
            return UNKNOWN;
        }
        switch (what) {
            case 0:
                return people.thoughtOf(one);
            case 1:
                return people.isStubborn(one) ? 1 : 0;
            case 2:
                return people.countHeard(one);
            case 3:
                links.followHanging(people);
                return links.countFirsts(links.firstTiedTo(one));
            default:
                return OUTSIDE;
        }
    }

    public int told(int what) {
        switch (what) {
            case 0:
                return people.size();
            case 1:
                return people.earWidth();
            case 2:
                return countGroups();
            case 3:
                return people.spread();
            case 4:
                return people.discord();
            case 5:
                return people.sumOfThoughts();
            case 6:
                return people.countStubborn();
            default:
                return OUTSIDE;
        }
    }

    public int keep() {
        return kept.takeFrom(people);
    }

    public int back() {
        return kept.isTaken() ? kept.giveBackTo(people) : STATE;
    }

    public int width(int a, int b, int g) {
        if (!isThought(a) || !isThought(b) || !isFrom(b, a, a + MOST_WIDENING) || !isFrom(g, 1, MOST_PEOPLE)) {
            return OUTSIDE;
        }
        int earBefore = people.earWidth();
        int least = NONE;
        rounds.remember(people);
        for (int trial = a; trial <= b && least == NONE; trial++) {
            people.openEars(trial);
            if (rounds.runTillStill(people) != SPENT && countGroups() <= g) {
                least = trial;
            }
            rounds.putBack(people);
        }
        people.openEars(earBefore);
        return least;
    }

    // ---- 2 shares

    public int leads(int one, int other) {
        if (!people.has(one) || !people.has(other)) {
            return UNKNOWN;
        }
        links.followListening(people);
        return links.isTied(one, other) ? 1 : 0;
    }

    public long share(int one, int what) {
        if (!people.has(one)) {
            return LOST + UNKNOWN;
        }
        if (!isFrom(what, 0, 1)) {
            return LOST + OUTSIDE;
        }
        if (!shares.areThere(people, links)) {
            return LOST + NO;
        }
        shares.work(people);
        return partOf(shares.partFor(one), shares.whole(), what);
    }

    public long end(int what) {
        if (!isFrom(what, 0, 1)) {
            return LOST + OUTSIDE;
        }
        if (!shares.areThere(people, links)) {
            return LOST + NO;
        }
        shares.work(people);
        return partOf(shares.sumWithThoughts(people), shares.whole(), what);
    }

    // ---- 3 rest

    public long rest(int one, int what) {
        if (!people.has(one)) {
            return LOST + UNKNOWN;
        }
        if (!isFrom(what, 0, 1)) {
            return LOST + OUTSIDE;
        }
        if (!rests.isTold(people, links)) {
            return LOST + NO;
        }
        rests.work(people);
        return partOf(rests.upperOf(one), rests.lowerOfAll(), what);
    }

    public int pull(int thought) {
        if (!isThought(thought)) {
            return OUTSIDE;
        }
        if (!rests.isTold(people, links) || people.countMoving() < 2) {
            return NO;
        }
        int best = NO;
        long bestUpper = 0;
        long bestLower = 1;
        for (int one = 0; one < people.size(); one++) {
            if (people.isStubborn(one)) {
                continue;
            }
            workAsIfHeld(one, thought);
            long upper = rests.sumOfUppers(people);
            if (best == NO || compareFractions(upper, rests.lowerOfAll(), bestUpper, bestLower) > 0) {
                best = one;
                bestUpper = upper;
                bestLower = rests.lowerOfAll();
            }
        }
        return best;
    }

    // ---- 4 talks

    public int talk(int a, int b) {
        if (!people.has(a) || !people.has(b) || a == b) {
            return UNKNOWN;
        }
        int ofA = people.thoughtOf(a);
        int ofB = people.thoughtOf(b);
        int sum = ofA + ofB;
        // Of two that think alike each has half of an even sum, so that their numbers need no look.
        boolean aIsLesser = ofA <= ofB;
        people.rethink(a, aIsLesser ? sum / 2 : sum - sum / 2);
        people.rethink(b, aIsLesser ? sum - sum / 2 : sum / 2);
        return Math.abs(ofA - ofB);
    }

    public int fewest(int n, int d) {
        if (!isFrom(n, LEAST_TALKING, MOST_TALKING) || !isThought(d)) {
            return OUTSIDE;
        }
        if (people.size() < n) {
            return UNKNOWN;
        }
        return search.lookFor(people, n, d);
    }

    public int found() {
        return search.countKinds();
    }

    // ---- what the calls share

    private static boolean isFrom(int number, int least, int most) {
        return number >= least && number <= most;
    }

    /** Ears and spreads have the same bounds as thoughts. */
    private static boolean isThought(int number) {
        return isFrom(number, 0, MOST_THOUGHT);
    }

    private int countGroups() {
        links.followHanging(people);
        return links.countFirsts(people.size());
    }

    /** Rest as it would be if one more were stubborn at a thought; the one is put back. */
    private void workAsIfHeld(int one, int thought) {
        int before = people.thoughtOf(one);
        people.rethink(one, thought);
        people.makeStubborn(one, true);
        rests.work(people);
        people.makeStubborn(one, false);
        people.rethink(one, before);
    }

    /** Upper (0) or lower (1) number of a fraction in lowest terms. */
    private static long partOf(long upper, long lower, int what) {
        long common = commonDivisor(upper, lower);
        long asked = what == 0 ? upper : lower;
        return common == 0 ? asked : asked / common;
    }

    private static long commonDivisor(long a, long b) {
        long greater = a;
        long lesser = b;
        for (int step = 0; step < MOST_STEPS && lesser != 0; step++) {
            long left = greater % lesser;
            greater = lesser;
            lesser = left;
        }
        return greater;
    }

    /**
     * Compares a / b with c / d, none below 0, by their whole parts and then what is left turned over:
     * cross products could be too long for a long.
     */
    private static int compareFractions(long a, long b, long c, long d) {
        long upper = a;
        long lower = b;
        long otherUpper = c;
        long otherLower = d;
        for (int step = 0; step < MOST_STEPS && lower != 0 && otherLower != 0; step++) {
            long whole = upper / lower;
            long otherWhole = otherUpper / otherLower;
            if (whole != otherWhole) {
                return Long.compare(whole, otherWhole);
            }
            long left = upper % lower;
            long otherLeft = otherUpper % otherLower;
            if (left == 0 || otherLeft == 0) {
                return Long.compare(left, otherLeft);
            }
            upper = otherLower;
            otherUpper = lower;
            lower = otherLeft;
            otherLower = left;
        }
        return 0;
    }

    /** The people as they stand, with their weights and ears. */
    private static final class People {
        private final int[] thoughts = new int[MOST_PEOPLE];
        private final boolean[] stubborn = new boolean[MOST_PEOPLE];
        private final int[][] weights = new int[MOST_PEOPLE][MOST_PEOPLE];
        private int count = 0;
        private int ear = MOST_THOUGHT;

        int size() {
            return count;
        }

        boolean has(int one) {
            return one >= 0 && one < count && one < MOST_PEOPLE;
        }

        int join(int thought) {
            if (count >= MOST_PEOPLE) {
                return FULL;
            }
            int one = count;
            count++;
            rethink(one, thought);
            weigh(one, one, 1);
            return one;
        }

        int thoughtOf(int one) {
            return has(one) ? thoughts[one] : 0;
        }

        void rethink(int one, int thought) {
            if (has(one)) {
                thoughts[one] = thought;
            }
        }

        boolean isStubborn(int one) {
            return has(one) && stubborn[one];
        }

        void makeStubborn(int one, boolean is) {
            if (has(one)) {
                stubborn[one] = is;
            }
        }

        int weightOf(int one, int other) {
            return has(one) && has(other) ? weights[one][other] : 0;
        }

        void weigh(int one, int other, int weight) {
            if (has(one) && has(other)) {
                weights[one][other] = weight;
            }
        }

        int earWidth() {
            return ear;
        }

        void openEars(int width) {
            ear = width;
        }

        /** Each hears itself, whatever its weight for itself is. */
        boolean hears(int one, int other) {
            if (!has(one) || !has(other)) {
                return false;
            }
            return one == other || weights[one][other] > 0 && Math.abs(thoughts[one] - thoughts[other]) <= ear;
        }

        int countHeard(int one) {
            int heard = 0;
            for (int other = 0; other < count; other++) {
                if (other != one && hears(one, other)) {
                    heard++;
                }
            }
            return heard;
        }

        int thoughtAfterRound(int one) {
            if (!has(one) || stubborn[one]) {
                return thoughtOf(one);
            }
            int sum = 0;
            int together = 0;
            for (int other = 0; other < count && other < MOST_PEOPLE; other++) {
                if (hears(one, other)) {
                    sum += weights[one][other] * thoughts[other];
                    together += weights[one][other];
                }
            }
            return together == 0 ? thoughts[one] : sum / together;
        }

        boolean hangTogether(int one, int other) {
            return hears(one, other) || hears(other, one);
        }

        int spread() {
            int least = thoughtOf(0);
            int greatest = least;
            for (int one = 1; one < count; one++) {
                least = Math.min(least, thoughtOf(one));
                greatest = Math.max(greatest, thoughtOf(one));
            }
            return greatest - least;
        }

        int discord() {
            int sum = 0;
            for (int one = 0; one < count; one++) {
                for (int other = one + 1; other < count; other++) {
                    sum += Math.abs(thoughtOf(one) - thoughtOf(other));
                }
            }
            return sum;
        }

        int sumOfThoughts() {
            int sum = 0;
            for (int one = 0; one < count; one++) {
                sum += thoughtOf(one);
            }
            return sum;
        }

        int countStubborn() {
            int sum = 0;
            for (int one = 0; one < count; one++) {
                sum += isStubborn(one) ? 1 : 0;
            }
            return sum;
        }

        int countMoving() {
            return count - countStubborn();
        }
    }

    /** Rounds of listening, with a row for what all think next and one to put thoughts back from. */
    private static final class Rounds {
        private final int[] next = new int[MOST_PEOPLE];
        private final int[] before = new int[MOST_PEOPLE];

        /** How many of n rounds changed something: after one that does not, none does. */
        int runMany(People people, int n) {
            for (int changing = 0; changing < n; changing++) {
                if (!runOne(people)) {
                    return changing;
                }
            }
            return n;
        }

        int runTillStill(People people) {
            for (int done = 1; done <= MOST_ROUNDS; done++) {
                if (!runOne(people)) {
                    return done;
                }
            }
            return SPENT;
        }

        /** Whether the round changed something. */
        private boolean runOne(People people) {
            for (int one = 0; one < people.size() && one < next.length; one++) {
                next[one] = people.thoughtAfterRound(one);
            }
            boolean changed = false;
            for (int one = 0; one < people.size() && one < next.length; one++) {
                changed = changed || next[one] != people.thoughtOf(one);
                people.rethink(one, next[one]);
            }
            return changed;
        }

        void remember(People people) {
            for (int one = 0; one < people.size() && one < before.length; one++) {
                before[one] = people.thoughtOf(one);
            }
        }

        void putBack(People people) {
            for (int one = 0; one < people.size() && one < before.length; one++) {
                people.rethink(one, before[one]);
            }
        }
    }

    /** Thoughts that were kept. */
    private static final class Kept {
        private final int[] thoughts = new int[MOST_PEOPLE];
        private int count = 0;
        private boolean taken = false;

        boolean isTaken() {
            return taken;
        }

        int takeFrom(People people) {
            taken = true;
            count = Math.min(people.size(), thoughts.length);
            for (int one = 0; one < count; one++) {
                thoughts[one] = people.thoughtOf(one);
            }
            return count;
        }

        int giveBackTo(People people) {
            for (int one = 0; one < count && one < thoughts.length; one++) {
                people.rethink(one, thoughts[one]);
            }
            return count;
        }
    }

    /** Who is tied to whom, over as many steps as it takes: for each a set of bits. */
    private static final class Links {
        private final int[] tied = new int[MOST_PEOPLE];
        private int count = 0;

        /** One is tied to those to whom it leads. */
        void followListening(People people) {
            begin(people.size());
            for (int one = 0; one < count; one++) {
                for (int other = 0; other < count; other++) {
                    if (people.weightOf(other, one) > 0) {
                        tie(one, other);
                    }
                }
            }
            followOn();
        }

        /** One is tied to those in its group, itself among them. */
        void followHanging(People people) {
            begin(people.size());
            for (int one = 0; one < count; one++) {
                for (int other = 0; other < count; other++) {
                    if (people.hangTogether(one, other)) {
                        tie(one, other);
                    }
                }
            }
            followOn();
        }

        boolean isTied(int one, int other) {
            return isThere(one) && isThere(other) && (tied[one] & 1 << other) != 0;
        }

        /** The first one to whom one is tied, or one itself. */
        int firstTiedTo(int one) {
            for (int other = 0; other < one; other++) {
                if (isTied(one, other)) {
                    return other;
                }
            }
            return one;
        }

        /** How many below a bound are the first of their group. */
        int countFirsts(int bound) {
            int firsts = 0;
            for (int one = 0; one < bound && one < count; one++) {
                if (firstTiedTo(one) == one) {
                    firsts++;
                }
            }
            return firsts;
        }

        private boolean isThere(int one) {
            return one >= 0 && one < count && one < tied.length;
        }

        private void begin(int size) {
            count = size;
            for (int one = 0; one < tied.length; one++) {
                tied[one] = 0;
            }
        }

        private void tie(int one, int other) {
            if (isThere(one) && isThere(other)) {
                tied[one] |= 1 << other;
            }
        }

        /** Warshall's way: after a turn for one, all steps that go by it are known. */
        private void followOn() {
            for (int by = 0; by < count && by < tied.length; by++) {
                for (int one = 0; one < count && one < tied.length; one++) {
                    if (isTied(one, by)) {
                        tied[one] |= tied[by];
                    }
                }
            }
        }
    }

    /**
     * A square of whole numbers with one more column beside it. Its determinant is made of minors of the
     * first rows: nothing is divided, and no two minors are multiplied, which could be too long for a long.
     */
    private static final class Square {
        private final long[][] cells = new long[MOST_SOLVED][MOST_SOLVED];
        private final long[] beside = new long[MOST_SOLVED];
        private final long[] minors = new long[1 << MOST_SOLVED];
        private int size = 0;

        void begin(int newSize) {
            size = Math.max(0, Math.min(newSize, MOST_SOLVED));
            for (int row = 0; row < MOST_SOLVED; row++) {
                beside[row] = 0;
                for (int column = 0; column < MOST_SOLVED; column++) {
                    cells[row][column] = 0;
                }
            }
        }

        void add(int row, int column, long number) {
            if (isPlace(row) && isPlace(column)) {
                cells[row][column] += number;
            }
        }

        void addBeside(int row, long number) {
            if (isPlace(row)) {
                beside[row] += number;
            }
        }

        /** With the column that stands beside in place of one; of the square itself, if there is no such one. */
        long determinant(int replaced) {
            int all = (1 << size) - 1;
            minors[0] = 1;
            for (int columns = 1; columns <= all && columns < minors.length; columns++) {
                minors[columns] = minorOf(columns, replaced);
            }
            return all >= 0 && all < minors.length ? minors[all] : 0;
        }

        /** The same with 1 in a row and 0 in the others beside: what is left without that row and column. */
        long determinantWithout(int place) {
            for (int row = 0; row < size && row < beside.length; row++) {
                beside[row] = row == place ? 1 : 0;
            }
            return determinant(place);
        }

        private boolean isPlace(int place) {
            return place >= 0 && place < size && place < MOST_SOLVED;
        }

        /** Of as many first rows as there are columns in the set: along the last of these rows. */
        private long minorOf(int columns, int replaced) {
            int row = Integer.bitCount(columns) - 1;
            long sum = 0;
            long sign = 1;
            for (int column = size - 1; column >= 0; column--) {
                int left = columns & ~(1 << column);
                if (left != columns && left >= 0 && left < minors.length) {
                    sum += sign * cellOf(row, column, replaced) * minors[left];
                    sign = -sign;
                }
            }
            return sum;
        }

        private long cellOf(int row, int column, int replaced) {
            if (!isPlace(row) || !isPlace(column)) {
                return 0;
            }
            return column == replaced ? beside[row] : cells[row][column];
        }
    }

    /** How much the thought of each counts in what all come to. */
    private static final class Shares {
        private final Square square = new Square();
        private final long[] parts = new long[MOST_SOLVED];
        private long together = 0;

        boolean areThere(People people, Links links) {
            if (!isFrom(people.size(), LEAST_SHARING, MOST_SOLVED)) {
                return false;
            }
            links.followListening(people);
            for (int one = 0; one < people.size(); one++) {
                for (int other = 0; other < people.size(); other++) {
                    if (!links.isTied(one, other)) {
                        return false;
                    }
                }
            }
            return true;
        }

        /**
         * Shares by weights together come out of even what each takes from others with what it gives:
         * they are as the minors of that square along its middle (the tree theorem of Markov chains).
         */
        void work(People people) {
            fillSquare(people);
            together = 0;
            for (int one = 0; one < people.size() && one < parts.length; one++) {
                parts[one] = square.determinantWithout(one) * weightsTogether(people, one);
                together += parts[one];
            }
        }

        long partFor(int one) {
            return one >= 0 && one < parts.length ? parts[one] : 0;
        }

        long whole() {
            return together;
        }

        long sumWithThoughts(People people) {
            long sum = 0;
            for (int one = 0; one < people.size(); one++) {
                sum += partFor(one) * people.thoughtOf(one);
            }
            return sum;
        }

        private void fillSquare(People people) {
            square.begin(people.size());
            for (int one = 0; one < people.size(); one++) {
                for (int other = 0; other < people.size(); other++) {
                    square.add(one, one, people.weightOf(one, other));
                    square.add(one, other, -people.weightOf(one, other));
                }
            }
        }

        private static long weightsTogether(People people, int one) {
            long sum = 0;
            for (int other = 0; other < people.size(); other++) {
                sum += people.weightOf(one, other);
            }
            return sum;
        }
    }

    /** Thoughts at rest beside stubborn ones: fractions with one lower number for all. */
    private static final class Rests {
        private final Square square = new Square();
        private final int[] placeOf = new int[MOST_PEOPLE];
        private final long[] uppers = new long[MOST_PEOPLE];
        private long lower = 1;

        boolean isTold(People people, Links links) {
            if (!isFrom(people.countMoving(), 1, MOST_SOLVED)) {
                return false;
            }
            links.followListening(people);
            for (int one = 0; one < people.size(); one++) {
                if (!people.isStubborn(one) && !isLedByStubborn(people, links, one)) {
                    return false;
                }
            }
            return true;
        }

        /** By Cramer's rule: each that moves is a column of the square. */
        void work(People people) {
            numberMoving(people);
            fillSquare(people);
            lower = square.determinant(-1);
            for (int one = 0; one < people.size() && one < MOST_PEOPLE; one++) {
                boolean stays = people.isStubborn(one);
                uppers[one] = stays ? people.thoughtOf(one) * lower : square.determinant(placeOf[one]);
            }
        }

        long upperOf(int one) {
            return one >= 0 && one < uppers.length ? uppers[one] : 0;
        }

        long lowerOfAll() {
            return lower;
        }

        long sumOfUppers(People people) {
            long sum = 0;
            for (int one = 0; one < people.size(); one++) {
                sum += upperOf(one);
            }
            return sum;
        }

        private static boolean isLedByStubborn(People people, Links links, int one) {
            for (int other = 0; other < people.size(); other++) {
                if (people.isStubborn(other) && links.isTied(other, one)) {
                    return true;
                }
            }
            return false;
        }

        private void numberMoving(People people) {
            int moving = 0;
            for (int one = 0; one < people.size() && one < placeOf.length; one++) {
                placeOf[one] = moving;
                moving += people.isStubborn(one) ? 0 : 1;
            }
            square.begin(moving);
        }

        private void fillSquare(People people) {
            for (int one = 0; one < people.size() && one < placeOf.length; one++) {
                if (!people.isStubborn(one)) {
                    fillRow(people, one, placeOf[one]);
                }
            }
        }

        private void fillRow(People people, int one, int row) {
            for (int other = 0; other < people.size() && other < placeOf.length; other++) {
                int weight = other == one ? 0 : people.weightOf(one, other);
                square.add(row, row, weight);
                if (people.isStubborn(other)) {
                    square.addBeside(row, (long) weight * people.thoughtOf(other));
                } else {
                    square.add(row, placeOf[other], -weight);
                }
            }
        }
    }

    /** Looks for the fewest talks, over all thoughts that can be come to, each kind packed into one number. */
    private static final class TalkSearch {
        private static final int BITS = 10;
        private static final long MASK = (1L << BITS) - 1;
        private static final int SLOT_BITS = 10;
        private static final int SLOTS = 1 << SLOT_BITS;
        /** An odd number near 2 to the 64th by the golden ratio: its products differ early, in their upper bits. */
        private static final long SCATTER = 0x9E3779B97F4A7C15L;

        private final long[] kinds = new long[MOST_KINDS];
        private final int[] talksTo = new int[MOST_KINDS];
        /** For each slot the place of a kind and one more; 0 where there is none. */
        private final int[] slots = new int[SLOTS];
        private int count = 0;
        private int size = 0;
        private int aim = 0;

        int countKinds() {
            return count;
        }

        int lookFor(People people, int n, int d) {
            begin(n, d);
            long first = pack(people);
            comeTo(first, 0);
            if (spreadOf(first) <= aim) {
                return 0;
            }
            for (int at = 0; at < count && at < MOST_KINDS; at++) {
                int answer = goOnFrom(kinds[at], talksTo[at] + 1);
                if (answer != NONE) {
                    return answer;
                }
            }
            return NONE;
        }

        /** The number of talks, if one of them brings all near; SPENT; NONE: the search goes on. */
        private int goOnFrom(long kind, int talks) {
            for (int a = 0; a < size; a++) {
                for (int b = a + 1; b < size; b++) {
                    long next = afterTalk(kind, a, b);
                    if (isKnown(next)) {
                        continue;
                    }
                    if (count >= kinds.length) {
                        return SPENT;
                    }
                    comeTo(next, talks);
                    if (spreadOf(next) <= aim) {
                        return talks;
                    }
                }
            }
            return NONE;
        }

        private void begin(int n, int d) {
            size = n;
            aim = d;
            count = 0;
            for (int slot = 0; slot < slots.length; slot++) {
                slots[slot] = 0;
            }
        }

        private long pack(People people) {
            long kind = 0;
            for (int one = 0; one < size; one++) {
                kind |= (long) people.thoughtOf(one) << BITS * one;
            }
            return kind;
        }

        private static int unpack(long kind, int one) {
            return (int) (kind >> BITS * one & MASK);
        }

        private static long afterTalk(long kind, int a, int b) {
            int ofA = unpack(kind, a);
            int ofB = unpack(kind, b);
            int half = (ofA + ofB) / 2;
            int left = ofA + ofB - half;
            long others = kind & ~(MASK << BITS * a) & ~(MASK << BITS * b);
            boolean aIsLesser = ofA <= ofB;
            return others | (long) (aIsLesser ? half : left) << BITS * a | (long) (aIsLesser ? left : half) << BITS * b;
        }

        private int spreadOf(long kind) {
            int least = unpack(kind, 0);
            int greatest = least;
            for (int one = 1; one < size; one++) {
                least = Math.min(least, unpack(kind, one));
                greatest = Math.max(greatest, unpack(kind, one));
            }
            return greatest - least;
        }

        private boolean isKnown(long kind) {
            return isAt(placeIn(slotFor(kind)), kind);
        }

        private boolean isAt(int place, long kind) {
            return place >= 0 && place < kinds.length && kinds[place] == kind;
        }

        private int placeIn(int slot) {
            return slot >= 0 && slot < slots.length ? slots[slot] - 1 : -1;
        }

        private void comeTo(long kind, int talks) {
            if (count < kinds.length) {
                kinds[count] = kind;
                talksTo[count] = talks;
                count++;
                mark(slotFor(kind), count);
            }
        }

        private void mark(int slot, int number) {
            if (slot >= 0 && slot < slots.length) {
                slots[slot] = number;
            }
        }

        /** The slot in which a kind stands, or the free one where it would: there are more slots than kinds. */
        private int slotFor(long kind) {
            int slot = (int) (kind * SCATTER >>> 64 - SLOT_BITS);
            for (int step = 0; step < SLOTS; step++) {
                int place = placeIn(slot);
                if (place < 0 || isAt(place, kind)) {
                    return slot;
                }
                slot = (slot + 1) % SLOTS;
            }
            return slot;
        }
    }
}
