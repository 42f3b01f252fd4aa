/**
 * Areas shared among the rounds of carriers, so that the greatest load is least.
 * Inside, areas are counted from 0, so that a set of them is the bits of an int; the face counts from 1.
 */
public final class BalanceRounds {
    public static final int UNKNOWN = -11, OUTSIDE = -12, STATE = -13, ROOM = -14;

    private static final int AREAS = 30;
    private static final int ROUNDS = 4;
    private static final int OTHER_ROUNDS = ROUNDS - 1;
    private static final int MOST_EXACT = 8;
    private static final long MOST_LOAD = 1000000L;
    private static final long MOST_HOURS = 1000000000L;
    private static final long MOST_STEPS = 100000L;
    private static final long COST_OF_FAULT = 1000000000000L;
    private static final long COST_OF_LOAD = 100L;

    private final Town town;
    private final Share share;
    private final Least least;
    private boolean solved;

    public BalanceRounds() {
        town = new Town();
        share = new Share(town);
        least = new Least();
        solved = false;
    }

    public int area(long load, int round) {
        if (load < 0 || load > MOST_LOAD || !isRound(round)) {
            return OUTSIDE;
        }
        if (town.count >= AREAS) {
            return ROOM;
        }
        town.addArea(load, round);
        solved = false;
        return town.count;
    }

    public boolean joined(int a, int b, boolean barred) {
        if (!isArea(a) || !isArea(b) || a == b) {
            return false;
        }
        boolean open = !barred;
        if (town.areJoined(a - 1, b - 1) != open) {
            town.turnJoin(a - 1, b - 1);
            solved = false;
        }
        return open;
    }

    public int carrier(int round, long hours) {
        if (!isRound(round) || hours < 0 || hours > MOST_HOURS) {
            return OUTSIDE;
        }
        long before = town.hours[round];
        if (before != hours) {
            town.hours[round] = hours;
            solved = false;
        }
        return (int) before;
    }

    public int know(int round, int area) {
        if (!isArea(area)) {
            return UNKNOWN;
        }
        if (!isRound(round)) {
            return OUTSIDE;
        }
        if (town.isKnown(area - 1, round)) {
            return 0;
        }
        town.learn(area - 1, round);
        solved = false;
        return 1;
    }

    public long solve(long steps) {
        if (steps < 0 || steps > MOST_STEPS) {
            return OUTSIDE;
        }
        if (isForExact()) {
            findLeastShare();
        } else {
            improveByMoves(steps);
        }
        solved = true;
        return share.greatestLoad();
    }

    public int round(int area) {
        if (!isArea(area)) {
            return UNKNOWN;
        }
        return solved ? share.roundOf[area - 1] : STATE;
    }

    public int changed() {
        return solved ? share.changes : STATE;
    }

    public boolean together(int round) throws IllegalArgumentException, IllegalStateException {
        if (!isRound(round)) {
            throw new IllegalArgumentException("a round is 0 to 3");
        }
        if (!solved) {
            throw new IllegalStateException("it is not solved");
        }
        return share.hangsTogether(round);
    }

    public int faults() {
        return solved ? share.allFaults() : STATE;
    }

    public long bound() {
        int carriers = town.roundsWithHours();
        if (carriers <= 0) {
            return -1;
        }
        long sum = 0;
        long greatest = 0;
        for (int area = 0; area < town.count; area++) {
            long lightest = town.lightestLoad(area);
            sum += lightest;
            greatest = Math.max(greatest, lightest);
        }
        return Math.max(greatest, (sum + carriers - 1) / carriers);
    }

    public int tooLarge(int i) {
        if (i < 0 || town.roundsWithHours() == 0) {
            return 0;
        }
        int before = 0;
        for (int area = 0; area < town.count; area++) {
            if (town.fitsNowhere(area)) {
                if (before == i) {
                    return area + 1;
                }
                before++;
            }
        }
        return 0;
    }

    public boolean exact() {
        // No area can have come since it was solved, so the number of areas still tells the way.
        return solved && isForExact();
    }

    private boolean isArea(int number) {
        return number >= 1 && number <= town.count;
    }

    private static boolean isRound(int number) {
        return number >= 0 && number < ROUNDS;
    }

    private boolean isForExact() {
        return town.count <= MOST_EXACT;
    }

    private void findLeastShare() {
        share.beginWith(town.todays);
        // One above today's cost: a share that costs as much as today's but comes before it must still be found.
        least.cost = share.cost() + 1;
        share.clear();
        tryRoundsFrom(0, share, least);
        share.beginWith(least.row);
    }

    /** Rows are tried from the least one on, so that of several with the same cost the first one found is due. */
    private static void tryRoundsFrom(int area, Share share, Least least) {
        long cost = share.cost();
        if (cost >= least.cost) {
            return;
        }
        if (area >= share.town.count || area >= MOST_EXACT) {
            least.keep(share, cost);
            return;
        }
        for (int round = 0; round < ROUNDS; round++) {
            share.put(area, round);
            tryRoundsFrom(area + 1, share, least);
            share.take(area);
        }
    }

    /** The moves of a share are numbered in the order in which they are due: three for each area. */
    private void improveByMoves(long steps) {
        share.beginWith(town.todays);
        long lowest = share.cost();
        int moves = town.count * OTHER_ROUNDS;
        int move = 0;
        for (long reckoned = 0; reckoned < steps && move < moves; reckoned++) {
            int area = move / OTHER_ROUNDS;
            int from = share.roundOf[area];
            share.move(area, otherRound(from, move % OTHER_ROUNDS));
            long cost = share.cost();
            if (cost < lowest) {
                lowest = cost;
                move = 0;
            } else {
                share.move(area, from);
                move++;
            }
        }
    }

    private static int otherRound(int round, int i) {
        return i < round ? i : i + 1;
    }

    /** The best whole share that the exact search has met. */
    private static final class Least {
        private final int[] row = new int[MOST_EXACT];
        private long cost = 0;

        void keep(Share share, long itsCost) {
            cost = itsCost;
            System.arraycopy(share.roundOf, 0, row, 0, MOST_EXACT);
        }
    }

    /** What was told: areas, ways, carriers. */
    private static final class Town {
        private final long[] loads = new long[AREAS];
        private final int[] todays = new int[AREAS];
        private final int[] neighbours = new int[AREAS];
        private final int[] known = new int[ROUNDS];
        private final long[] hours = new long[ROUNDS];
        private int count = 0;

        void addArea(long load, int today) {
            loads[count] = load;
            todays[count] = today;
            count++;
        }

        boolean areJoined(int a, int b) {
            return (neighbours[a] & 1 << b) != 0;
        }

        void turnJoin(int a, int b) {
            neighbours[a] ^= 1 << b;
            neighbours[b] ^= 1 << a;
        }

        boolean isKnown(int area, int round) {
            return (known[round] & 1 << area) != 0;
        }

        void learn(int area, int round) {
            known[round] |= 1 << area;
        }

        long loadIn(int area, int round) {
            return isKnown(area, round) ? (loads[area] * 9 + 9) / 10 : loads[area];
        }

        int roundsWithHours() {
            int carriers = 0;
            for (int round = 0; round < ROUNDS; round++) {
                if (hours[round] > 0) {
                    carriers++;
                }
            }
            return carriers;
        }

        long lightestLoad(int area) {
            long lightest = loads[area];
            for (int round = 0; round < ROUNDS; round++) {
                if (hours[round] > 0) {
                    lightest = Math.min(lightest, loadIn(area, round));
                }
            }
            return lightest;
        }

        boolean fitsNowhere(int area) {
            for (int round = 0; round < ROUNDS; round++) {
                if (hours[round] > 0 && loadIn(area, round) <= hours[round]) {
                    return false;
                }
            }
            return true;
        }

        /** Whether from each of some areas there is a way to each other one over the areas of a set that holds them. */
        boolean haveWays(int areas, int over) {
            int reached = areas & -areas;
            int before = 0;
            // Each pass but the last one reaches an area more, so there are no more passes than areas.
            for (int pass = 0; pass < AREAS && reached != before && (areas & ~reached) != 0; pass++) {
                before = reached;
                for (int area = 0; area < count; area++) {
                    if ((reached & 1 << area) != 0) {
                        reached |= neighbours[area] & over;
                    }
                }
            }
            return (areas & ~reached) == 0;
        }
    }

    /** A share, or the beginning of one with areas that are still open, with the sums of its rounds kept in step. */
    private static final class Share {
        private final Town town;
        private final int[] roundOf = new int[AREAS];
        private final int[] areasIn = new int[ROUNDS];
        private final long[] loadOf = new long[ROUNDS];
        private int open = 0;
        private int changes = 0;

        Share(Town town) {
            this.town = town;
        }

        void clear() {
            open = (1 << town.count) - 1;
            changes = 0;
            for (int round = 0; round < ROUNDS; round++) {
                areasIn[round] = 0;
                loadOf[round] = 0;
            }
        }

        void beginWith(int[] row) {
            clear();
            for (int area = 0; area < town.count && area < row.length; area++) {
                put(area, row[area]);
            }
        }

        void put(int area, int round) {
            roundOf[area] = round;
            open &= ~(1 << area);
            areasIn[round] |= 1 << area;
            loadOf[round] += town.loadIn(area, round);
            if (round != town.todays[area]) {
                changes++;
            }
        }

        void take(int area) {
            int round = roundOf[area];
            open |= 1 << area;
            areasIn[round] &= ~(1 << area);
            loadOf[round] -= town.loadIn(area, round);
            if (round != town.todays[area]) {
                changes--;
            }
        }

        void move(int area, int round) {
            take(area);
            put(area, round);
        }

        long greatestLoad() {
            long greatest = 0;
            for (int round = 0; round < ROUNDS; round++) {
                greatest = Math.max(greatest, loadOf[round]);
            }
            return greatest;
        }

        /** An open area may yet come and hold a round together. */
        boolean hangsTogether(int round) {
            return town.haveWays(areasIn[round], areasIn[round] | open);
        }

        int allFaults() {
            // Where no round has hours each open area will be a fault, wherever it is put.
            int found = town.roundsWithHours() == 0 ? Integer.bitCount(open) : 0;
            for (int round = 0; round < ROUNDS; round++) {
                if (!hangsTogether(round)) {
                    found++;
                }
                if (town.hours[round] == 0) {
                    found += Integer.bitCount(areasIn[round]);
                } else if (loadOf[round] > town.hours[round]) {
                    found++;
                }
            }
            return found;
        }

        /** With open areas: what it costs at least, wherever they are put, as none of the three parts becomes less. */
        long cost() {
            return COST_OF_FAULT * allFaults() + COST_OF_LOAD * greatestLoad() + changes;
        }
    }
}
