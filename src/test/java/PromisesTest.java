/** Each promise of the document by hand: ordinary inputs, the edges it names, wrong inputs. */
public final class PromisesTest {
    private static final int UNKNOWN = -11, OUTSIDE = -12, STATE = -13, ROOM = -14;
    private static final int[] WRONG_ROUNDS = {-1, 4, Integer.MIN_VALUE, Integer.MAX_VALUE};

    public static void main(String[] args) {
        promise1NewObject();
        promise2Area();
        promise2AreaEndsTheShare();
        promise3Joined();
        promise3JoinedEndsTheShareOnlyIfItChanges();
        promise4Carrier();
        promise4CarrierEndsTheShareOnlyIfItChanges();
        promise5Know();
        promise5KnowEndsTheShareOnlyIfItChanges();
        promise6SolveRefuses();
        promise6SolveExactlyTakesTheLeastRow();
        promise6SolveExactlyChangesLittle();
        promise6SolveExactlyAvoidsFaultsFirst();
        promise6SolveExactlyWeighsFaultsMost();
        promise6SolveByMovesCountsSteps();
        promise6SolveByMovesDoesNoneThatIsEqual();
        promise6SolveByMovesReachesTheLastMove();
        promise6SolveByMovesTakesTheFirstThatIsLess();
        promise7Round();
        promise8Changed();
        promise9Together();
        promise10Faults();
        promise11Bound();
        promise12TooLarge();
        promise13Exact();
        Check.end();
    }

    /** An area for each load, all of them in that round today. */
    private static BalanceRounds withAreas(int today, long... loads) {
        BalanceRounds x = new BalanceRounds();
        for (long load : loads) {
            x.area(load, today);
        }
        return x;
    }

    private static void joinAll(BalanceRounds x, int areas) {
        for (int a = 1; a <= areas; a++) {
            for (int b = a + 1; b <= areas; b++) {
                x.joined(a, b, false);
            }
        }
    }

    private static void dueShare(String name, BalanceRounds x, int... rounds) {
        for (int i = 0; i < rounds.length; i++) {
            Check.due(name + ": round(" + (i + 1) + ")", x.round(i + 1), rounds[i]);
        }
    }

    private static void dueHolds(String name, BalanceRounds x, boolean holds) {
        Check.due(name + ": it holds", x.changed() != STATE, holds);
        Check.due(name + ": exact()", x.exact(), holds);
    }

    private static void promise1NewObject() {
        BalanceRounds x = new BalanceRounds();
        Check.due("new: round(1)", x.round(1), UNKNOWN);
        Check.due("new: changed()", x.changed(), STATE);
        Check.due("new: faults()", x.faults(), STATE);
        Check.due("new: together(0)", Check.together(x, 0), Check.THREW_STATE);
        Check.due("new: exact()", x.exact(), false);
        Check.due("new: bound()", x.bound(), -1);
        Check.due("new: tooLarge(0)", x.tooLarge(0), 0);
        for (int round = 0; round < 4; round++) {
            Check.due("new: carrier", x.carrier(round, 0), 0);
        }
        Check.due("new: solve(0)", x.solve(0), 0);
        Check.due("new: faults() when solved", x.faults(), 0);

        BalanceRounds other = withAreas(0, 5);
        other.carrier(0, 5);
        Check.due("objects share nothing: area", new BalanceRounds().area(1, 0), 1);
        Check.due("objects share nothing: carrier", new BalanceRounds().carrier(0, 1), 0);
    }

    private static void promise2Area() {
        BalanceRounds x = new BalanceRounds();
        Check.due("area(0, 0)", x.area(0, 0), 1);
        Check.due("area(1000000, 3)", x.area(1000000, 3), 2);
        for (long load : new long[] {-1, 1000001, Long.MIN_VALUE, Long.MAX_VALUE, 1L << 32}) {
            Check.due("area of a wrong load", x.area(load, 0), OUTSIDE);
        }
        for (int round : WRONG_ROUNDS) {
            Check.due("area of a wrong round", x.area(1, round), OUTSIDE);
        }
        for (int number = 3; number <= 30; number++) {
            Check.due("area, one more", x.area(number, number % 4), number);
        }
        Check.due("area 31", x.area(1, 0), ROOM);
        Check.due("area 31, load outside", x.area(-1, 0), OUTSIDE);
        Check.due("area 31, round outside", x.area(1, 4), OUTSIDE);
        x.solve(0);
        Check.due("refused for room: it holds", x.area(1, 0), ROOM);
        Check.due("refused for room: changed()", x.changed(), 0);
        Check.due("area 30 is there", x.round(30), 30 % 4);
        Check.due("area 31 is not", x.round(31), UNKNOWN);
    }

    private static void promise2AreaEndsTheShare() {
        BalanceRounds x = withAreas(0, 1, 2);
        x.solve(0);
        x.area(-1, 0);
        x.area(1, 4);
        dueHolds("area refused", x, true);
        x.area(0, 0);
        dueHolds("area came", x, false);
    }

    private static void promise3Joined() {
        BalanceRounds x = withAreas(0, 1, 1, 1);
        Check.due("joined(1, 2, false)", x.joined(1, 2, false), true);
        Check.due("joined(3, 1, true)", x.joined(3, 1, true), false);
        Check.due("joined(1, 1, false)", x.joined(1, 1, false), false);
        int[] none = {0, -1, 4, 32, 33, Integer.MIN_VALUE, Integer.MAX_VALUE};
        for (int area : none) {
            Check.due("joined(1, none)", x.joined(1, area, false), false);
            Check.due("joined(none, 1)", x.joined(area, 1, false), false);
            Check.due("joined(none, none)", x.joined(area, area, false), false);
        }
        x.carrier(0, 100);
        x.solve(0);
        Check.due("1 and 2 joined, 3 alone", x.faults(), 1);
        Check.due("the later word counts: open", x.joined(1, 3, false), true);
        x.solve(0);
        Check.due("all joined", x.faults(), 0);
        Check.due("the later word counts: barred", x.joined(2, 1, true), false);
        x.solve(0);
        Check.due("2 alone", x.faults(), 1);
    }

    private static void promise3JoinedEndsTheShareOnlyIfItChanges() {
        BalanceRounds x = withAreas(0, 1, 1, 1);
        x.joined(1, 2, false);
        x.solve(0);
        x.joined(2, 1, false);
        x.joined(1, 3, true);
        x.joined(1, 4, false);
        x.joined(2, 2, false);
        dueHolds("joined told again, barred again, or of no areas", x, true);
        x.joined(1, 3, false);
        dueHolds("joined anew", x, false);
        x.solve(0);
        x.joined(3, 1, true);
        dueHolds("barred anew", x, false);
    }

    private static void promise4Carrier() {
        BalanceRounds x = new BalanceRounds();
        Check.due("carrier(0, 7)", x.carrier(0, 7), 0);
        Check.due("carrier(0, 1000000000)", x.carrier(0, 1000000000L), 7);
        Check.due("carrier(0, 0)", x.carrier(0, 0), 1000000000);
        Check.due("carrier(0, 0) again", x.carrier(0, 0), 0);
        Check.due("carrier(3, 9)", x.carrier(3, 9), 0);
        for (int round : WRONG_ROUNDS) {
            Check.due("carrier of a wrong round", x.carrier(round, 1), OUTSIDE);
        }
        for (long hours : new long[] {-1, 1000000001L, Long.MIN_VALUE, Long.MAX_VALUE, 1L << 32}) {
            Check.due("carrier of wrong hours", x.carrier(3, hours), OUTSIDE);
        }
        Check.due("carrier(3, 1) after refusals", x.carrier(3, 1), 9);
    }

    private static void promise4CarrierEndsTheShareOnlyIfItChanges() {
        BalanceRounds x = withAreas(0, 1);
        x.carrier(0, 5);
        x.solve(0);
        x.carrier(0, 5);
        x.carrier(1, 0);
        x.carrier(0, -1);
        x.carrier(4, 1);
        dueHolds("the same hours, or refused", x, true);
        x.carrier(0, 6);
        dueHolds("other hours", x, false);
    }

    private static void promise5Know() {
        BalanceRounds x = withAreas(2, 10, 11, 0, 1);
        Check.due("know(2, 1)", x.know(2, 1), 1);
        Check.due("know(2, 1) again", x.know(2, 1), 0);
        Check.due("know(3, 1)", x.know(3, 1), 1);
        Check.due("know(2, 0)", x.know(2, 0), UNKNOWN);
        Check.due("know(2, 5)", x.know(2, 5), UNKNOWN);
        Check.due("know(2, 33)", x.know(2, 33), UNKNOWN);
        Check.due("know(2, least)", x.know(2, Integer.MIN_VALUE), UNKNOWN);
        Check.due("know(2, most)", x.know(2, Integer.MAX_VALUE), UNKNOWN);
        for (int round : WRONG_ROUNDS) {
            Check.due("know of a wrong round", x.know(round, 1), OUTSIDE);
            Check.due("know of a wrong round and area", x.know(round, 5), UNKNOWN);
        }
        x.carrier(2, 100);
        Check.due("9 + 11 + 0 + 1", x.bound(), 21);
        x.know(2, 2);
        Check.due("nine tenths of 11 are 10", x.bound(), 20);
        x.know(2, 3);
        x.know(2, 4);
        Check.due("nine tenths of 0 and 1 are 0 and 1", x.bound(), 20);
        x.area(19, 0);
        x.know(2, 5);
        Check.due("nine tenths of 19 are 18", x.bound(), 38);
    }

    private static void promise5KnowEndsTheShareOnlyIfItChanges() {
        BalanceRounds x = withAreas(0, 0);
        x.know(0, 1);
        x.solve(0);
        x.know(0, 1);
        x.know(0, 2);
        x.know(4, 1);
        dueHolds("known before, or refused", x, true);
        x.know(1, 1);
        dueHolds("known anew", x, false);
    }

    private static void promise6SolveRefuses() {
        BalanceRounds x = withAreas(1, 5);
        for (long steps : new long[] {-1, 100001, Long.MIN_VALUE, Long.MAX_VALUE, 1L << 32}) {
            Check.due("solve of wrong steps", x.solve(steps), OUTSIDE);
        }
        Check.due("refused: still not solved", x.changed(), STATE);
        Check.due("solve(100000)", x.solve(100000), 5);
        Check.due("refused when solved", x.solve(-1), OUTSIDE);
        dueHolds("refused when solved", x, true);
    }

    private static void promise6SolveExactlyTakesTheLeastRow() {
        BalanceRounds x = withAreas(3, 5, 5);
        for (int round = 0; round < 3; round++) {
            x.carrier(round, 10);
        }
        Check.due("two areas, today without hours", x.solve(0), 5);
        dueShare("the least row of the best", x, 0, 1);
        x.joined(1, 2, false);
        x.carrier(0, 0);
        Check.due("rounds 1 and 2 alone have hours", x.solve(0), 5);
        dueShare("the least row without round 0", x, 1, 2);

        // Both changes of one area cost as much; the row of today's (1, 1) is not the least one.
        BalanceRounds y = withAreas(1, 4, 4);
        y.carrier(0, 10);
        y.carrier(1, 10);
        Check.due("either of two may change", y.solve(0), 4);
        dueShare("the row 0 1 comes before 1 0", y, 0, 1);
    }

    private static void promise6SolveExactlyChangesLittle() {
        BalanceRounds x = new BalanceRounds();
        for (int round = 0; round < 4; round++) {
            x.carrier(round, 100);
        }
        x.area(7, 3);
        x.area(7, 2);
        Check.due("today is as good as any", x.solve(0), 7);
        dueShare("today stays", x, 3, 2);
        Check.due("nothing is changed", x.changed(), 0);

        // One of load costs 100, more than all eight changes.
        BalanceRounds y = withAreas(0, 1, 1, 1, 1, 1, 1, 1, 1);
        joinAll(y, 8);
        for (int round = 0; round < 4; round++) {
            y.carrier(round, 100);
        }
        Check.due("eight areas, two a round", y.solve(0), 2);
        Check.due("six are changed", y.changed(), 6);
        dueShare("the least row that leaves two", y, 0, 0, 1, 1, 2, 2, 3, 3);
    }

    private static void promise6SolveExactlyAvoidsFaultsFirst() {
        // Without a way between them, three areas in two rounds tear one; a round without hours is no worse.
        BalanceRounds x = withAreas(0, 10, 10, 10);
        x.carrier(0, 100);
        x.carrier(1, 100);
        Check.due("a fault cannot be avoided", x.solve(0), 10);
        Check.due("one fault", x.faults(), 1);
        dueShare("the least row with one fault and the least load", x, 0, 1, 2);

        // A way through area 2 holds 1 and 3 together; the greater load of 30 is without faults.
        x.carrier(1, 0);
        x.joined(1, 2, false);
        x.joined(2, 3, false);
        Check.due("all in the one round with hours", x.solve(0), 30);
        Check.due("no faults", x.faults(), 0);
        x.carrier(0, 29);
        Check.due("above hours is one fault, as is one area elsewhere", x.solve(0), 20);
        Check.due("one fault alone", x.faults(), 1);
        dueShare("two that are joined stay", x, 0, 0, 1);
    }

    private static void promise6SolveExactlyWeighsFaultsMost() {
        long most = 1000000;
        BalanceRounds x = withAreas(1, most, most, most, most, most, most, most, most);
        joinAll(x, 8);
        x.carrier(0, 8 * most);
        Check.due("the greatest load there can be, without faults", x.solve(0), 8 * most);
        Check.due("eight changed", x.changed(), 8);
        Check.due("no faults at all", x.faults(), 0);
    }

    /** Nine areas of load 1 in round 0, all joined, rounds 0 and 1 with hours. */
    private static BalanceRounds nineAreas() {
        BalanceRounds x = withAreas(0, 1, 1, 1, 1, 1, 1, 1, 1, 1);
        joinAll(x, 9);
        x.carrier(0, 100);
        x.carrier(1, 100);
        return x;
    }

    private static void promise6SolveByMovesCountsSteps() {
        BalanceRounds x = nineAreas();
        Check.due("no steps", x.solve(0), 9);
        Check.due("no steps, no changes", x.changed(), 0);
        Check.due("one step: area 1 to round 1, done though the last", x.solve(1), 8);
        dueShare("one step", x, 1, 0, 0);
        // Then area 1 to 0, 2, 3 are not less; area 2 to 1 is the fifth one.
        Check.due("four steps", x.solve(4), 8);
        Check.due("five steps", x.solve(5), 7);
        dueShare("five steps", x, 1, 1, 0);
        // Area 1 to 0, 2, 3, area 2 to 0, 2, 3, area 3 to 1: the twelfth one.
        Check.due("eleven steps", x.solve(11), 7);
        Check.due("twelve steps", x.solve(12), 6);
        Check.due("steps enough", x.solve(100000), 5);
        dueShare("until none is less", x, 1, 1, 1, 1, 0, 0, 0, 0, 0);
        Check.due("from today on again", x.solve(1), 8);
    }

    private static void promise6SolveByMovesDoesNoneThatIsEqual() {
        BalanceRounds x = nineAreas();
        x.carrier(2, 100);
        Check.due("area 1 to 1, then to 0 and 2", x.solve(3), 8);
        dueShare("round 2 is as good as 1, not less", x, 1, 0, 0);
    }

    private static void promise6SolveByMovesReachesTheLastMove() {
        // Area 9 alone tears round 0, and it can go to round 3 alone: that is the last move of 27.
        BalanceRounds x = withAreas(0, 0, 0, 0, 0, 0, 0, 0, 0, 1);
        joinAll(x, 8);
        x.carrier(0, 100);
        x.carrier(3, 100);
        x.solve(26);
        Check.due("26 steps: faults()", x.faults(), 1);
        x.solve(27);
        Check.due("27 steps: faults()", x.faults(), 0);
        Check.due("27 steps: round(9)", x.round(9), 3);
    }

    private static void promise6SolveByMovesTakesTheFirstThatIsLess() {
        BalanceRounds x = new BalanceRounds();
        x.carrier(0, 12);
        x.carrier(1, 12);
        x.area(10, 0);
        x.area(5, 1);
        for (int area = 3; area <= 9; area++) {
            x.area(0, 0);
        }
        joinAll(x, 9);
        Check.due("10 and 5 are the best already", x.solve(100000), 10);
        Check.due("nothing changed", x.changed(), 0);
        x.area(7, 1);
        x.joined(2, 10, false);
        // Today 10 and 12. No move of area 1 or 2 is less; the areas of load 0 change for nothing.
        Check.due("10 and 12 cannot be better by one move", x.solve(100000), 12);
        x.carrier(2, 12);
        // Area 2 to round 2: 10, 7, 5; then nothing is less.
        Check.due("a third round helps", x.solve(100000), 10);
        dueShare("area 2 went", x, 0, 2, 0);
        Check.due("area 10 stayed", x.round(10), 1);
        // Area 1's three moves, area 2's to 0 and 2: five.
        Check.due("area 2 goes with the fifth reckoned", x.solve(5), 10);
        Check.due("and not with the fourth", x.solve(4), 12);
    }

    private static void promise7Round() {
        BalanceRounds x = withAreas(2, 1);
        Check.due("not solved: round(1)", x.round(1), STATE);
        Check.due("not solved: round(2)", x.round(2), UNKNOWN);
        x.carrier(2, 5);
        x.solve(0);
        Check.due("round(1)", x.round(1), 2);
        for (int area : new int[] {0, -1, 2, Integer.MIN_VALUE, Integer.MAX_VALUE}) {
            Check.due("round of no area", x.round(area), UNKNOWN);
        }
        x.carrier(2, 6);
        Check.due("no longer solved: round(1)", x.round(1), STATE);
    }

    private static void promise8Changed() {
        BalanceRounds x = withAreas(3, 1, 2);
        Check.due("not solved: changed()", x.changed(), STATE);
        x.carrier(0, 10);
        x.carrier(3, 10);
        x.solve(0);
        Check.due("one changed", x.changed(), 1);
        x.carrier(3, 0);
        x.joined(1, 2, false);
        Check.due("no longer solved: changed()", x.changed(), STATE);
        x.solve(0);
        Check.due("both changed", x.changed(), 2);
    }

    private static void promise9Together() {
        BalanceRounds x = withAreas(1, 1, 1, 1);
        for (int round : WRONG_ROUNDS) {
            Check.due("not solved: together of a wrong round", Check.together(x, round), Check.THREW_ARGUMENT);
        }
        Check.due("not solved: together(0)", Check.together(x, 0), Check.THREW_STATE);
        for (int area = 4; area <= 9; area++) {
            x.area(1, area < 9 ? 2 : 3);
        }
        x.joined(1, 2, false);
        x.joined(4, 8, false);
        x.joined(8, 5, false);
        x.joined(5, 7, false);
        x.joined(7, 6, false);
        x.solve(0);
        Check.due("none hang together", Check.together(x, 0), 1);
        Check.due("3 is apart from 1 and 2", Check.together(x, 1), 0);
        Check.due("a chain", Check.together(x, 2), 1);
        Check.due("one alone", Check.together(x, 3), 1);
        for (int round : WRONG_ROUNDS) {
            Check.due("together of a wrong round", Check.together(x, round), Check.THREW_ARGUMENT);
        }
        x.joined(5, 8, true);
        Check.due("no longer solved: together(2)", Check.together(x, 2), Check.THREW_STATE);
        x.joined(8, 9, false);
        x.joined(9, 5, false);
        x.solve(0);
        Check.due("a way over another round's area is none", Check.together(x, 2), 0);

        BalanceRounds y = withAreas(0, 1, 1, 1, 1, 1, 1, 1, 1, 1);
        int[] chain = {1, 9, 2, 8, 3, 7, 4, 6, 5};
        for (int i = 1; i < chain.length; i++) {
            y.joined(chain[i], chain[i - 1], false);
        }
        y.solve(0);
        Check.due("a chain to and fro", Check.together(y, 0), 1);
    }

    private static void promise10Faults() {
        BalanceRounds x = withAreas(0, 1, 1, 1);
        Check.due("not solved: faults()", x.faults(), STATE);
        for (int area = 4; area <= 9; area++) {
            x.area(10, area < 7 ? 1 : 2);
        }
        x.carrier(1, 29);
        x.carrier(2, 30);
        x.joined(7, 8, false);
        x.joined(8, 9, false);
        x.solve(0);
        Check.due("three without hours, two torn, one above", x.faults(), 6);
        x.carrier(1, 30);
        x.solve(0);
        Check.due("as much as the hours is no fault", x.faults(), 5);
        x.joined(4, 5, false);
        x.joined(5, 6, false);
        x.solve(0);
        Check.due("three without hours, one torn", x.faults(), 4);
        x.carrier(0, 2);
        x.solve(0);
        Check.due("above hours and torn are two", x.faults(), 2);
        x.know(0, 1);
        x.solve(0);
        Check.due("one known of load 1 weighs 1", x.faults(), 2);
        x.carrier(0, 3);
        Check.due("no longer solved: faults()", x.faults(), STATE);
    }

    private static void promise11Bound() {
        BalanceRounds x = new BalanceRounds();
        x.carrier(0, 5);
        Check.due("no areas: bound()", x.bound(), 0);
        x.carrier(0, 0);
        x.area(10, 0);
        x.area(20, 0);
        x.area(31, 0);
        Check.due("no hours: bound()", x.bound(), -1);
        x.carrier(1, 1);
        Check.due("one round: the sum", x.bound(), 61);
        x.carrier(2, 1);
        Check.due("two rounds: half, rounded up", x.bound(), 31);
        x.area(1, 0);
        x.area(1, 0);
        Check.due("63 by two, rounded up", x.bound(), 32);
        x.carrier(3, 1);
        Check.due("three rounds: the greatest area", x.bound(), 31);
        x.know(0, 3);
        Check.due("known in a round without hours: for nothing", x.bound(), 31);
        x.know(3, 3);
        Check.due("nine tenths of 31 are 28", x.bound(), 28);
        x.carrier(3, 0);
        Check.due("hours gone: 63 by two", x.bound(), 32);
        x.solve(0);
        x.bound();
        dueHolds("bound asks only", x, true);
    }

    private static void promise12TooLarge() {
        BalanceRounds x = withAreas(0, 10, 20, 5, 11, 12);
        Check.due("no hours: tooLarge(0)", x.tooLarge(0), 0);
        x.carrier(1, 10);
        Check.due("tooLarge(0)", x.tooLarge(0), 2);
        Check.due("tooLarge(1)", x.tooLarge(1), 4);
        Check.due("tooLarge(2)", x.tooLarge(2), 5);
        Check.due("tooLarge(3)", x.tooLarge(3), 0);
        Check.due("tooLarge(-1)", x.tooLarge(-1), 0);
        Check.due("tooLarge(least)", x.tooLarge(Integer.MIN_VALUE), 0);
        Check.due("tooLarge(most)", x.tooLarge(Integer.MAX_VALUE), 0);
        x.know(0, 2);
        x.know(1, 4);
        Check.due("known, nine tenths of 11 are 10: not 4", x.tooLarge(1), 5);
        x.carrier(2, 12);
        Check.due("in each round: 2 alone", x.tooLarge(0), 2);
        Check.due("in each round: no other one", x.tooLarge(1), 0);
        x.carrier(3, 20);
        Check.due("2 fits in round 3", x.tooLarge(0), 0);
    }

    private static void promise13Exact() {
        BalanceRounds x = withAreas(0, 1, 1, 1, 1, 1, 1, 1, 1);
        Check.due("not solved: exact()", x.exact(), false);
        x.solve(0);
        Check.due("eight areas: exact()", x.exact(), true);
        x.area(1, 0);
        Check.due("no longer solved: exact()", x.exact(), false);
        x.solve(100000);
        Check.due("nine areas: exact()", x.exact(), false);
        Check.due("nine areas are solved", x.changed() != STATE, true);
    }
}
