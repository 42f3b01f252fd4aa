import java.util.ArrayList;
import java.util.Arrays;
import java.util.List;
import java.util.Random;

/** Runs of calls, the same ones each time, answered by the class and by the document's words taken literally. */
public final class ReferenceTest {
    private static final int UNKNOWN = -11, OUTSIDE = -12, STATE = -13, ROOM = -14;
    private static final int[] WRONG = {-1, 0, 4, 31, 32, 33, Integer.MIN_VALUE, Integer.MAX_VALUE};
    private static final long[] WRONG_LONGS = {-1, 1000001, 100001, 1000000001L, Long.MIN_VALUE, Long.MAX_VALUE};

    public static void main(String[] args) {
        for (int run = 0; run < 400 && !Check.anyWrong(); run++) {
            runOf(run);
        }
        Check.end();
    }

    private static void runOf(int run) {
        Random random = new Random(run);
        int most = run % 10 == 0 ? 8 : run % 2 == 0 ? 1 + random.nextInt(7) : 9 + random.nextInt(24);
        long mostLoad = new long[] {0, 3, 12, 100, 1000000}[random.nextInt(5)];
        Pair pair = new Pair(run, random, mostLoad);
        int joins = random.nextInt(3 * most + 1);
        for (int i = 0; i < most; i++) {
            pair.area();
        }
        for (int i = 0; i < joins; i++) {
            pair.joined();
        }
        for (int i = 0; i < 3; i++) {
            pair.carrier();
        }
        int calls = most > 6 && most <= 8 ? 40 : 200;
        for (int i = 0; i < calls && pair.hasCallsLeft() && !Check.anyWrong(); i++) {
            pair.anyCall(most);
        }
    }

    /** The class and the reference, called alike. */
    private static final class Pair {
        private final BalanceRounds x = new BalanceRounds();
        private final Reference y = new Reference();
        private final int run;
        private final Random random;
        private final long mostLoad;
        private int calls = 0;

        Pair(int run, Random random, long mostLoad) {
            this.run = run;
            this.random = random;
            this.mostLoad = mostLoad;
        }

        private void due(String call, long got, long want) {
            calls++;
            Check.due("run " + run + ", call " + calls + ": " + call, got, want);
        }

        /** One more turn makes 46 calls at most, and only 512 calls of an object are promised. */
        boolean hasCallsLeft() {
            return calls <= 512 - 46;
        }

        private boolean seldom() {
            return random.nextInt(25) == 0;
        }

        private int someRound() {
            return seldom() ? WRONG[random.nextInt(WRONG.length)] : random.nextInt(4);
        }

        private int someArea() {
            return seldom() ? WRONG[random.nextInt(WRONG.length)] : 1 + random.nextInt(Math.max(1, y.loads.size()));
        }

        private long someLong(long most) {
            if (seldom()) {
                return WRONG_LONGS[random.nextInt(WRONG_LONGS.length)];
            }
            return seldom() ? most : (long) (random.nextDouble() * (most + 1));
        }

        void area() {
            long load = someLong(mostLoad);
            int round = someRound();
            due("area(" + load + ", " + round + ")", x.area(load, round), y.area(load, round));
        }

        void joined() {
            int a = someArea();
            int b = random.nextBoolean() ? a + 1 : someArea();
            boolean barred = random.nextInt(5) == 0;
            due("joined(" + a + ", " + b + ", " + barred + ")",
                    x.joined(a, b, barred) ? 1 : 0, y.joined(a, b, barred) ? 1 : 0);
        }

        void carrier() {
            int round = someRound();
            long hours = random.nextInt(6) == 0 ? 0 : someLong(1 + mostLoad * Math.max(1, y.loads.size()));
            due("carrier(" + round + ", " + hours + ")", x.carrier(round, hours), y.carrier(round, hours));
        }

        void know() {
            int round = someRound();
            int area = someArea();
            due("know(" + round + ", " + area + ")", x.know(round, area), y.know(round, area));
        }

        void solve() {
            long steps = random.nextInt(3) == 0 ? 100000 : someLong(random.nextBoolean() ? 20 : 1000);
            due("solve(" + steps + ")", x.solve(steps), y.solve(steps));
        }

        void ask() {
            due("changed()", x.changed(), y.changed());
            due("faults()", x.faults(), y.faults());
            due("exact()", x.exact() ? 1 : 0, y.exact() ? 1 : 0);
            due("bound()", x.bound(), y.bound());
            int area = someArea();
            due("round(" + area + ")", x.round(area), y.round(area));
            int round = someRound();
            due("together(" + round + ")", Check.together(x, round), y.together(round));
            int i = seldom() ? WRONG[random.nextInt(WRONG.length)] : random.nextInt(4);
            due("tooLarge(" + i + ")", x.tooLarge(i), y.tooLarge(i));
        }

        void askAll() {
            ask();
            for (int area = 1; area <= y.loads.size(); area++) {
                due("round(" + area + ")", x.round(area), y.round(area));
            }
            for (int round = 0; round < 4; round++) {
                due("together(" + round + ")", Check.together(x, round), y.together(round));
            }
        }

        void anyCall(int most) {
            switch (random.nextInt(12)) {
                case 0, 1, 2 -> joined();
                case 3 -> carrier();
                case 4, 5 -> know();
                case 6, 7 -> {
                    solve();
                    askAll();
                }
                case 8 -> {
                    if (y.loads.size() < most || most > 30) {
                        area();
                    }
                }
                default -> ask();
            }
        }
    }

    /** The document's words, taken one after the other, without a thought of speed. */
    private static final class Reference {
        final List<Long> loads = new ArrayList<>();
        private final List<Integer> todays = new ArrayList<>();
        private final long[] hours = new long[4];
        private final boolean[][] joins = new boolean[31][31];
        private final boolean[][] knows = new boolean[4][31];
        private int[] share = null;

        private boolean isArea(int area) {
            return area >= 1 && area <= loads.size();
        }

        private static boolean isRound(int round) {
            return round >= 0 && round <= 3;
        }

        int area(long load, int round) {
            if (load < 0 || load > 1000000 || !isRound(round)) {
                return OUTSIDE;
            }
            if (loads.size() == 30) {
                return ROOM;
            }
            loads.add(load);
            todays.add(round);
            share = null;
            return loads.size();
        }

        boolean joined(int a, int b, boolean barred) {
            if (!isArea(a) || !isArea(b) || a == b) {
                return false;
            }
            if (joins[a][b] == barred) {
                share = null;
            }
            joins[a][b] = !barred;
            joins[b][a] = !barred;
            return !barred;
        }

        int carrier(int round, long newHours) {
            if (!isRound(round) || newHours < 0 || newHours > 1000000000L) {
                return OUTSIDE;
            }
            long before = hours[round];
            hours[round] = newHours;
            if (before != newHours) {
                share = null;
            }
            return (int) before;
        }

        int know(int round, int area) {
            if (!isArea(area)) {
                return UNKNOWN;
            }
            if (!isRound(round)) {
                return OUTSIDE;
            }
            if (knows[round][area]) {
                return 0;
            }
            knows[round][area] = true;
            share = null;
            return 1;
        }

        long solve(long steps) {
            if (steps < 0 || steps > 100000) {
                return OUTSIDE;
            }
            share = loads.size() <= 8 ? leastOfAll() : byMoves(steps);
            return greatest(share);
        }

        int round(int area) {
            return !isArea(area) ? UNKNOWN : share == null ? STATE : share[area - 1];
        }

        int changed() {
            return share == null ? STATE : changedIn(share);
        }

        long together(int round) {
            if (!isRound(round)) {
                return Check.THREW_ARGUMENT;
            }
            return share == null ? Check.THREW_STATE : hangs(share, round) ? 1 : 0;
        }

        int faults() {
            return share == null ? STATE : faultsIn(share);
        }

        boolean exact() {
            return share != null && loads.size() <= 8;
        }

        long bound() {
            long sum = 0;
            long most = 0;
            int carriers = 0;
            for (long h : hours) {
                carriers += h > 0 ? 1 : 0;
            }
            if (carriers == 0) {
                return -1;
            }
            for (int area = 1; area <= loads.size(); area++) {
                long least = Long.MAX_VALUE;
                for (int r = 0; r < 4; r++) {
                    least = hours[r] > 0 ? Math.min(least, loadOf(area, r)) : least;
                }
                sum += least;
                most = Math.max(most, least);
            }
            long part = sum / carriers + (sum % carriers > 0 ? 1 : 0);
            return Math.max(part, most);
        }

        int tooLarge(int i) {
            List<Integer> large = new ArrayList<>();
            for (int area = 1; area <= loads.size(); area++) {
                int carriers = 0;
                int tooSmall = 0;
                for (int r = 0; r < 4; r++) {
                    carriers += hours[r] > 0 ? 1 : 0;
                    tooSmall += hours[r] > 0 && loadOf(area, r) > hours[r] ? 1 : 0;
                }
                if (carriers > 0 && carriers == tooSmall) {
                    large.add(area);
                }
            }
            return i >= 0 && i < large.size() ? large.get(i) : 0;
        }

        private long loadOf(int area, int round) {
            long load = loads.get(area - 1);
            return knows[round][area] ? load - load / 10 : load;
        }

        private long loadOfRound(int[] rounds, int round) {
            long sum = 0;
            for (int area = 1; area <= rounds.length; area++) {
                sum += rounds[area - 1] == round ? loadOf(area, round) : 0;
            }
            return sum;
        }

        private long greatest(int[] rounds) {
            long most = 0;
            for (int r = 0; r < 4; r++) {
                most = Math.max(most, loadOfRound(rounds, r));
            }
            return most;
        }

        private boolean hangs(int[] rounds, int round) {
            boolean[] met = new boolean[rounds.length + 1];
            int groups = 0;
            for (int area = 1; area <= rounds.length; area++) {
                if (rounds[area - 1] == round && !met[area]) {
                    groups++;
                    meet(area, rounds, met);
                }
            }
            return groups <= 1;
        }

        private void meet(int area, int[] rounds, boolean[] met) {
            met[area] = true;
            for (int other = 1; other <= rounds.length; other++) {
                if (joins[area][other] && rounds[other - 1] == rounds[area - 1] && !met[other]) {
                    meet(other, rounds, met);
                }
            }
        }

        private int faultsIn(int[] rounds) {
            int count = 0;
            for (int r : rounds) {
                count += hours[r] == 0 ? 1 : 0;
            }
            for (int r = 0; r < 4; r++) {
                count += hours[r] > 0 && loadOfRound(rounds, r) > hours[r] ? 1 : 0;
                count += hangs(rounds, r) ? 0 : 1;
            }
            return count;
        }

        private int changedIn(int[] rounds) {
            int count = 0;
            for (int i = 0; i < rounds.length; i++) {
                count += rounds[i] == todays.get(i) ? 0 : 1;
            }
            return count;
        }

        private long cost(int[] rounds) {
            return 1000000000000L * faultsIn(rounds) + 100 * greatest(rounds) + changedIn(rounds);
        }

        private int[] leastOfAll() {
            int[] best = null;
            long least = 0;
            for (int number = 0; number < 1 << 2 * loads.size(); number++) {
                int[] rounds = new int[loads.size()];
                for (int i = 0; i < rounds.length; i++) {
                    rounds[i] = number >> 2 * (rounds.length - 1 - i) & 3;
                }
                long cost = cost(rounds);
                if (best == null || cost < least) {
                    best = rounds;
                    least = cost;
                }
            }
            return best;
        }

        private int[] byMoves(long steps) {
            int[] now = todays.stream().mapToInt(Integer::intValue).toArray();
            long least = cost(now);
            long reckoned = 0;
            boolean again = true;
            while (again) {
                again = false;
                search:
                for (int i = 0; i < now.length; i++) {
                    for (int r = 0; r < 4; r++) {
                        if (now[i] == r) {
                            continue;
                        }
                        if (reckoned == steps) {
                            return now;
                        }
                        reckoned++;
                        int[] then = Arrays.copyOf(now, now.length);
                        then[i] = r;
                        if (cost(then) < least) {
                            now = then;
                            least = cost(then);
                            again = true;
                            break search;
                        }
                    }
                }
            }
            return now;
        }
    }
}
