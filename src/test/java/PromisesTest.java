/** Each sentence of the promises 1 to 13 that names a boundary case has a test of its own. */
public final class PromisesTest {
    private static final int UNKNOWN = -11, OUTSIDE = -12, STATE = -13, ROOM = -14;
    private static final int MOST_AREAS = 30, MOST_CALLS = 512;
    private static final long MOST_LOAD = 1000000, MOST_HOURS = 1000000000, MOST_STEPS = 100000;
    /** A number that is 0, and one that is 5, where a long is taken for an int. */
    private static final long WRAPS_TO_0 = 1L << 32, WRAPS_TO_5 = (1L << 32) + 5;

    public static void main(String[] args) {
        useOfAnObject();
        promise1();
        promise2();
        promise3();
        promise4();
        promise5();
        promise6();
        promise7();
        promise8();
        promise9();
        promise10();
        promise11();
        promise12();
        promise13();
        Check.end();
    }

    private static void useOfAnObject() {
        Check.sentence("What it is", "An object is used for at most 512 calls after it has been made");
        BalanceRounds x = new BalanceRounds();
        for (int call = 1; call <= MOST_CALLS; call++) {
            Check.due("call " + call + ", carrier", x.carrier(0, call), call - 1);
        }
        BalanceRounds y = Towns.alike(8, 1, 0);
        Towns.joinAll(y, 8);
        for (int call = 8 + 28 + 1; call < MOST_CALLS; call++) {
            y.carrier(call % 4, call);
        }
        Check.due("call 512, solve", y.solve(0), 2);
    }

    private static void promise1() {
        aNewObjectHasNoAreas();
        aNewObjectHasNoHours();
        objectsShareNothing();
    }

    private static void aNewObjectHasNoAreas() {
        Check.sentence("Promise 1", "No areas");
        BalanceRounds x = new BalanceRounds();
        Check.due("round(1)", x.round(1), UNKNOWN);
        Check.due("know(0, 1)", x.know(0, 1), UNKNOWN);
        Check.due("joined(1, 2, false)", x.joined(1, 2, false), false);
        Check.due("changed()", x.changed(), STATE);
        Check.due("faults()", x.faults(), STATE);
        Check.due("together(0)", Check.together(x, 0), Check.THREW_STATE);
        Check.due("exact()", x.exact(), false);
        Check.due("solve(0)", x.solve(0), 0);
        Check.due("solved: changed()", x.changed(), 0);
        Check.due("solved: faults()", x.faults(), 0);
        Check.due("area(1, 0), the first one", x.area(1, 0), 1);
    }

    private static void aNewObjectHasNoHours() {
        Check.sentence("Promise 1", "no hours");
        BalanceRounds x = new BalanceRounds();
        Check.due("bound()", x.bound(), -1);
        Check.due("tooLarge(0)", x.tooLarge(0), 0);
        for (int round = 0; round <= 3; round++) {
            Check.due("carrier(" + round + ", 0)", x.carrier(round, 0), 0);
        }
    }

    private static void objectsShareNothing() {
        Check.sentence("Promise 1", "No areas, no hours");
        BalanceRounds x = Towns.areas(0, 5, 5);
        x.carrier(0, 5);
        x.solve(0);
        BalanceRounds y = new BalanceRounds();
        Check.due("beside another object: carrier(0, 1)", y.carrier(0, 1), 0);
        Check.due("beside another object: area(1, 0)", y.area(1, 0), 1);
        Check.due("beside another object: exact()", y.exact(), false);
        Check.due("the other object: carrier(0, 5)", x.carrier(0, 5), 5);
        Check.due("the other object: round(2)", x.round(2) != STATE, true);
    }

    private static void promise2() {
        anAreaMoreHasTheNextNumber();
        anAreasLoadIsAsSaid();
        anAreasRoundIsAsSaid();
        areasHaveRoomForThirty();
    }

    private static void anAreaMoreHasTheNextNumber() {
        Check.sentence("Promise 2", "An area more: its number");
        BalanceRounds x = new BalanceRounds();
        Check.due("the first one", x.area(5, 0), 1);
        Check.due("the same again is another one", x.area(5, 0), 2);
        x.area(-1, 0);
        x.area(1, 4);
        Check.due("refused ones take no number", x.area(7, 3), 3);
        x.solve(0);
        Check.due("after it was solved", x.area(7, 3), 4);
    }

    private static void anAreasLoadIsAsSaid() {
        Check.sentence("Promise 2", "OUTSIDE (load 0 .. 1000000");
        BalanceRounds x = new BalanceRounds();
        for (long load : new long[] {-1, MOST_LOAD + 1, Long.MIN_VALUE, Long.MAX_VALUE, WRAPS_TO_0, WRAPS_TO_5}) {
            Check.due("area(" + load + ", 0)", x.area(load, 0), OUTSIDE);
        }
        Check.due("area(0, 0)", x.area(0, 0), 1);
        x.carrier(0, MOST_HOURS);
        Check.due("area(0, 0): its load", x.bound(), 0);
        Check.due("area(1000000, 0)", x.area(MOST_LOAD, 0), 2);
        Check.due("area(1000000, 0): its load", x.bound(), MOST_LOAD);
    }

    private static void anAreasRoundIsAsSaid() {
        Check.sentence("Promise 2", "round 0 .. 3), ROOM");
        BalanceRounds x = new BalanceRounds();
        for (int round : Towns.WRONG_ROUNDS) {
            Check.due("area(1, " + round + ")", x.area(1, round), OUTSIDE);
            Check.due("area(-1, " + round + ")", x.area(-1, round), OUTSIDE);
        }
        for (int round = 0; round <= 3; round++) {
            Check.due("area(1, " + round + ")", x.area(1, round), round + 1);
        }
    }

    private static void areasHaveRoomForThirty() {
        Check.sentence("Promise 2", "ROOM");
        BalanceRounds x = Towns.alike(MOST_AREAS - 1, 1, 0);
        Check.due("the 30th", x.area(1, 3), MOST_AREAS);
        Check.due("the 31st", x.area(1, 3), ROOM);
        Check.due("the 31st again", x.area(0, 0), ROOM);
        x.solve(0);
        Check.due("the 30th is there", x.round(MOST_AREAS), 3);
        Check.due("no room, once solved", x.area(1, 0), ROOM);
        Check.due("it holds still: changed()", x.changed(), 0);
        Check.due("no 31st is there", x.round(MOST_AREAS + 1), UNKNOWN);
    }

    private static void promise3() {
        joinedTellsWhetherTheyAre();
        joinedOfNoAreasIsNothing();
        joinedOfAreasYetToComeIsNothing();
        joinedOfOneIsNothing();
    }

    private static void joinedTellsWhetherTheyAre() {
        Check.sentence("Promise 3", "the way between them barred or not: whether they are joined then");
        BalanceRounds x = Towns.alike(MOST_AREAS, 1, 0);
        Check.due("barred at first", x.joined(1, 30, true), false);
        Check.due("open then", x.joined(1, 30, false), true);
        Check.due("open again", x.joined(30, 1, false), true);
        Check.due("barred then", x.joined(30, 1, true), false);
        Check.due("barred again", x.joined(1, 30, true), false);
        Check.due("open once more", x.joined(1, 30, false), true);
        Check.due("neighbours", x.joined(29, 30, false), true);
    }

    private static void joinedOfNoAreasIsNothing() {
        Check.sentence("Promise 3", "Nothing comes of it, and the answer is false, when there are no such areas");
        BalanceRounds x = Towns.areas(0, 1, 1);
        Towns.fillRound3(x, 2);
        x.solve(0);
        for (int none : Towns.NEVER_AREAS) {
            for (boolean barred : new boolean[] {false, true}) {
                Check.due("joined(1, " + none + ")", x.joined(1, none, barred), false);
                Check.due("joined(" + none + ", 1)", x.joined(none, 1, barred), false);
                Check.due("joined(2, " + none + ")", x.joined(2, none, barred), false);
                Check.due("joined(" + none + ", " + none + ")", x.joined(none, none, barred), false);
            }
            Check.due("joined of two that are none", x.joined(none, 12, false), false);
        }
        Check.dueHolds("joined of no areas", x, true);
        Check.due("1 and 2 are not joined by it", Check.together(x, 0), 0);
    }

    private static void joinedOfAreasYetToComeIsNothing() {
        Check.sentence("Promise 3", "Nothing comes of it");
        BalanceRounds x = Towns.areas(0, 1);
        Check.due("joined(1, 2, false), one area", x.joined(1, 2, false), false);
        Check.due("joined(2, 1, false), one area", x.joined(2, 1, false), false);
        x.area(1, 0);
        Towns.fillRound3(x, 2);
        x.solve(0);
        Check.due("area 2 came, and is not joined", Check.together(x, 0), 0);
        Check.due("joined(1, 2, false), two areas", x.joined(1, 2, false), true);
    }

    private static void joinedOfOneIsNothing() {
        Check.sentence("Promise 3", "the answer is false, when there are no such areas, or both are one");
        BalanceRounds x = Towns.alike(MOST_AREAS, 1, 0);
        x.solve(0);
        for (int area : new int[] {1, 2, MOST_AREAS}) {
            Check.due("joined(" + area + ", " + area + ", false)", x.joined(area, area, false), false);
            Check.due("joined(" + area + ", " + area + ", true)", x.joined(area, area, true), false);
        }
        Check.dueHolds("joined of one", x, true);
    }

    private static void promise4() {
        carrierTellsTheHoursBefore();
        carriersRoundIsAsSaid();
        carriersHoursAreAsSaid();
    }

    private static void carrierTellsTheHoursBefore() {
        Check.sentence("Promise 4", "A round's carrier has so many hours: those before");
        BalanceRounds x = new BalanceRounds();
        for (int round = 0; round <= 3; round++) {
            Check.due("carrier(" + round + ", 7)", x.carrier(round, 7 + round), 0);
        }
        for (int round = 0; round <= 3; round++) {
            Check.due("carrier(" + round + ", 0)", x.carrier(round, 0), 7 + round);
            Check.due("carrier(" + round + ", 1)", x.carrier(round, 1), 0);
            Check.due("carrier(" + round + ", 1) again", x.carrier(round, 1), 1);
            Check.due("carrier(" + round + ", 2)", x.carrier(round, 2), 1);
        }
    }

    private static void carriersRoundIsAsSaid() {
        Check.sentence("Promise 4", "OUTSIDE (round 0 .. 3");
        BalanceRounds x = new BalanceRounds();
        for (int round : Towns.WRONG_ROUNDS) {
            Check.due("carrier(" + round + ", 1)", x.carrier(round, 1), OUTSIDE);
            Check.due("carrier(" + round + ", -1)", x.carrier(round, -1), OUTSIDE);
        }
        Check.due("no round has hours of it", x.bound(), -1);
        Check.due("carrier(0, 1)", x.carrier(0, 1), 0);
        Check.due("carrier(3, 1)", x.carrier(3, 1), 0);
    }

    private static void carriersHoursAreAsSaid() {
        Check.sentence("Promise 4", "hours 0 .. 10^9)");
        BalanceRounds x = new BalanceRounds();
        x.carrier(3, 9);
        for (long hours : new long[] {-1, MOST_HOURS + 1, Long.MIN_VALUE, Long.MAX_VALUE, WRAPS_TO_0, WRAPS_TO_5}) {
            Check.due("carrier(3, " + hours + ")", x.carrier(3, hours), OUTSIDE);
        }
        Check.due("carrier(3, 10^9) after refusals", x.carrier(3, MOST_HOURS), 9);
        Check.due("carrier(3, 0) after 10^9", x.carrier(3, 0), MOST_HOURS);
        Check.due("carrier(3, 0) after 0", x.carrier(3, 0), 0);
    }

    private static void promise5() {
        knowTellsWhetherItIsNew();
        knowOfNoAreaIsUnknown();
        knowOfAnAreaYetToComeIsUnknown();
        knowOfNoRoundIsOutside();
    }

    private static void knowTellsWhetherItIsNew() {
        Check.sentence("Promise 5", "A round's carrier knows an area: 1; 0 if so before");
        BalanceRounds x = Towns.alike(MOST_AREAS, 10, 0);
        for (int area : new int[] {1, 2, MOST_AREAS}) {
            for (int round = 0; round <= 3; round++) {
                Check.due("know(" + round + ", " + area + ")", x.know(round, area), 1);
                Check.due("know(" + round + ", " + area + ") again", x.know(round, area), 0);
            }
        }
        Check.due("know(0, 1) much later", x.know(0, 1), 0);
        x.carrier(0, 7);
        x.solve(0);
        Check.due("know(3, 30) once solved", x.know(3, MOST_AREAS), 0);
    }

    private static void knowOfNoAreaIsUnknown() {
        Check.sentence("Promise 5", "UNKNOWN, OUTSIDE (a round)");
        BalanceRounds x = Towns.alike(MOST_AREAS, 1, 0);
        for (int none : Towns.NEVER_AREAS) {
            Check.due("know(0, " + none + ")", x.know(0, none), UNKNOWN);
        }
        Check.due("know(0, 1), still new", x.know(0, 1), 1);
        Check.due("know(0, 30), still new", x.know(0, MOST_AREAS), 1);
    }

    private static void knowOfAnAreaYetToComeIsUnknown() {
        Check.sentence("Promise 5", "UNKNOWN");
        BalanceRounds x = Towns.areas(0, 10);
        Check.due("know(0, 2), one area", x.know(0, 2), UNKNOWN);
        x.area(10, 0);
        Check.due("know(0, 2), two areas", x.know(0, 2), 1);
    }

    private static void knowOfNoRoundIsOutside() {
        Check.sentence("Promise 5", "OUTSIDE (a round)");
        BalanceRounds x = Towns.areas(0, 1);
        for (int round : Towns.WRONG_ROUNDS) {
            Check.due("know(" + round + ", 1)", x.know(round, 1), OUTSIDE);
        }
        for (int round = 0; round <= 3; round++) {
            Check.due("know(" + round + ", 1), still new", x.know(round, 1), 1);
        }
    }

    private static void promise6() {
        solveTellsTheGreatestLoad();
        solveWithoutAreasIsZero();
        solvesStepsAreAsSaid();
    }

    private static void solveTellsTheGreatestLoad() {
        Check.sentence("Promise 6", "It is SOLVED: the greatest load of a round");
        for (int greatest = 0; greatest <= 3; greatest++) {
            BalanceRounds x = new BalanceRounds();
            for (int round = 0; round <= 3; round++) {
                x.area(round == greatest ? 8 : 5, round);
            }
            Towns.hours(x, 10, 10, 10, 10);
            Check.due("greatest in round " + greatest + ": solve(0)", x.solve(0), 8);
            Towns.fillRound3(x, 4);
            Check.due("greatest in round " + greatest + ", by moves: solve(0)", x.solve(0), 8);
        }
        Check.due("one area without hours: solve(0)", Towns.areas(2, 4).solve(0), 4);
        Check.due("one area without load: solve(0)", Towns.areas(2, 0).solve(0), 0);
    }

    private static void solveWithoutAreasIsZero() {
        Check.sentence("Promise 6", "(0 without areas)");
        BalanceRounds x = new BalanceRounds();
        Check.due("solve(0)", x.solve(0), 0);
        Check.due("solve(100000)", x.solve(MOST_STEPS), 0);
        Towns.hours(x, 5, 5, 5, 5);
        Check.due("with hours: solve(0)", x.solve(0), 0);
        Check.due("changed()", x.changed(), 0);
        Check.due("faults()", x.faults(), 0);
        Check.due("exact()", x.exact(), true);
    }

    private static void solvesStepsAreAsSaid() {
        Check.sentence("Promise 6", "OUTSIDE when steps is not 0 .. 100000");
        for (int areas : new int[] {0, 1, 8, 9, MOST_AREAS}) {
            BalanceRounds x = Towns.alike(areas, 5, 1);
            for (long steps : new long[] {-1, MOST_STEPS + 1, Long.MIN_VALUE, Long.MAX_VALUE, WRAPS_TO_0, WRAPS_TO_5}) {
                Check.due(areas + " areas: solve(" + steps + ")", x.solve(steps), OUTSIDE);
                Check.due(areas + " areas, refused: changed()", x.changed(), STATE);
            }
            Check.due(areas + " areas: solve(0)", x.solve(0) >= 0, true);
            Check.due(areas + " areas: solve(100000)", x.solve(MOST_STEPS) >= 0, true);
            Check.due(areas + " areas: changed()", x.changed() >= 0, true);
        }
    }

    private static void promise7() {
        roundIsThatOfTheShare();
        roundOfNoAreaIsUnknown();
        roundNotSolvedIsState();
    }

    private static void roundIsThatOfTheShare() {
        Check.sentence("Promise 7", "An area's round in the share");
        BalanceRounds x = Towns.areas(2, 1);
        x.carrier(2, 5);
        x.solve(0);
        Check.due("today's: round(1)", x.round(1), 2);
        Towns.hours(x, 0, 5, 0);
        x.solve(0);
        Check.due("another one than today's: round(1)", x.round(1), 1);

        BalanceRounds full = new BalanceRounds();
        for (int area = 1; area <= MOST_AREAS; area++) {
            full.area(1, area % 4);
        }
        full.solve(0);
        for (int area = 1; area <= MOST_AREAS; area++) {
            Check.due("30 areas: round(" + area + ")", full.round(area), area % 4);
        }
    }

    private static void roundOfNoAreaIsUnknown() {
        Check.sentence("Promise 7", "UNKNOWN, STATE");
        for (int areas : new int[] {0, 1, MOST_AREAS}) {
            BalanceRounds x = Towns.alike(areas, 1, 0);
            x.solve(0);
            Check.due(areas + " areas: round of the next one", x.round(areas + 1), UNKNOWN);
            for (int none : Towns.NEVER_AREAS) {
                Check.due(areas + " areas: round(" + none + ")", x.round(none), UNKNOWN);
            }
        }
    }

    private static void roundNotSolvedIsState() {
        Check.sentence("Promise 7", "STATE");
        BalanceRounds x = Towns.areas(2, 1);
        Check.due("not solved: round(1)", x.round(1), STATE);
        x.solve(0);
        Check.due("solved: round(1)", x.round(1), 2);
        x.carrier(2, 6);
        Check.due("no longer solved: round(1)", x.round(1), STATE);
        x.solve(0);
        x.area(1, 3);
        Check.due("an area came: round(1)", x.round(1), STATE);
        Check.due("an area came: round(2)", x.round(2), STATE);
    }

    private static void promise8() {
        changedIsHowMany();
        changedNotSolvedIsState();
    }

    private static void changedIsHowMany() {
        Check.sentence("Promise 8", "How many areas are CHANGED");
        BalanceRounds x = Towns.areas(3, 1, 2);
        Towns.hours(x, 10, 0, 0, 10);
        x.solve(0);
        Check.due("one of two: changed()", x.changed(), 1);
        x.carrier(3, 0);
        x.joined(1, 2, false);
        x.solve(0);
        Check.due("two of two: changed()", x.changed(), 2);
        Towns.hours(x, 0, 0, 0, 10);
        x.solve(0);
        Check.due("none of two: changed()", x.changed(), 0);
    }

    private static void changedNotSolvedIsState() {
        Check.sentence("Promise 8", "STATE");
        BalanceRounds x = new BalanceRounds();
        Check.due("no areas, not solved: changed()", x.changed(), STATE);
        x.solve(0);
        Check.due("no areas, solved: changed()", x.changed(), 0);
        x.area(1, 0);
        Check.due("no longer solved: changed()", x.changed(), STATE);
    }

    private static void promise9() {
        togetherIsOfTheShare();
        togetherOfNoRoundThrows();
        togetherNotSolvedThrows();
    }

    private static void togetherIsOfTheShare() {
        Check.sentence("Promise 9", "Whether a round's areas hang TOGETHER in the share");
        BalanceRounds x = new BalanceRounds();
        for (int area = 1; area <= 9; area++) {
            x.area(1, area <= 2 ? 0 : area <= 5 ? 1 : 2);
        }
        Towns.joinChain(x, 3, 4, 5);
        Towns.joinChain(x, 6, 7, 8);
        x.solve(0);
        Check.due("two that are not joined: together(0)", Check.together(x, 0), 0);
        Check.due("a chain: together(1)", Check.together(x, 1), 1);
        Check.due("a chain and one apart: together(2)", Check.together(x, 2), 0);
        Check.due("none: together(3)", Check.together(x, 3), 1);
        Towns.hours(x, 100, 100, 100, 100);
        // Area 9 goes to round 3, where it is alone, and area 1 to round 1 or 2 gains nothing.
        x.solve(MOST_STEPS);
        Check.due("as the share is now, not as today: together(2)", Check.together(x, 2), 1);
    }

    private static void togetherOfNoRoundThrows() {
        Check.sentence("Promise 9", "IllegalArgumentException: a round is not 0 .. 3");
        BalanceRounds x = Towns.areas(1, 1, 1);
        x.solve(0);
        for (int round : Towns.WRONG_ROUNDS) {
            Check.due("together(" + round + ")", Check.together(x, round), Check.THREW_ARGUMENT);
        }
        for (int round = 0; round <= 3; round++) {
            Check.due("together(" + round + ")", Check.together(x, round), 1);
        }
    }

    private static void togetherNotSolvedThrows() {
        Check.sentence("Promise 9", "IllegalStateException: it is not solved");
        BalanceRounds x = new BalanceRounds();
        for (int round = 0; round <= 3; round++) {
            Check.due("no areas: together(" + round + ")", Check.together(x, round), Check.THREW_STATE);
        }
        x.area(1, 0);
        Check.due("one area: together(0)", Check.together(x, 0), Check.THREW_STATE);
        x.solve(-1);
        Check.due("solve was refused: together(0)", Check.together(x, 0), Check.THREW_STATE);
        x.solve(0);
        Check.due("solved: together(0)", Check.together(x, 0), 1);
        x.area(1, 0);
        Check.due("no longer solved: together(0)", Check.together(x, 0), Check.THREW_STATE);
    }

    private static void promise10() {
        faultsAreHowMany();
        faultsNotSolvedIsState();
    }

    private static void faultsAreHowMany() {
        Check.sentence("Promise 10", "How many FAULTS the share has");
        BalanceRounds x = new BalanceRounds();
        for (int i = 0; i < MOST_AREAS; i++) {
            x.area(MOST_LOAD, i % 4);
        }
        x.solve(0);
        Check.due("30 without hours, four torn: faults()", x.faults(), 34);
        Towns.hours(x, 1, 1, 1, 1);
        x.solve(0);
        Check.due("four above, four torn: faults()", x.faults(), 8);
        Towns.hours(x, MOST_HOURS, MOST_HOURS, MOST_HOURS, MOST_HOURS);
        x.solve(0);
        Check.due("four torn: faults()", x.faults(), 4);
        for (int area = 5; area <= MOST_AREAS; area++) {
            x.joined(area - 4, area, false);
        }
        x.solve(0);
        Check.due("none: faults()", x.faults(), 0);
    }

    private static void faultsNotSolvedIsState() {
        Check.sentence("Promise 10", "STATE");
        BalanceRounds x = new BalanceRounds();
        Check.due("no areas, not solved: faults()", x.faults(), STATE);
        x.solve(0);
        Check.due("no areas, solved: faults()", x.faults(), 0);
        x.carrier(0, 1);
        Check.due("no longer solved: faults()", x.faults(), STATE);
    }

    private static void promise11() {
        boundIsMinusOneWithoutHours();
        boundIsTheSumDividedRoundedUp();
        boundIsTheGreatestOfOneAreaIfMore();
        boundTakesEachAreaWhereItIsLightest();
        boundCountsNoRoundWithoutHours();
        noShareWithoutFaultsIsBelowTheBound();
    }

    private static void boundIsMinusOneWithoutHours() {
        Check.sentence("Promise 11", "-1 when no round has hours");
        BalanceRounds x = new BalanceRounds();
        Check.due("no areas: bound()", x.bound(), -1);
        x.area(0, 0);
        x.area(5, 0);
        Check.due("two areas: bound()", x.bound(), -1);
        x.carrier(3, 1);
        Check.due("one round with an hour: bound()", x.bound(), 5);
        x.carrier(3, 0);
        Check.due("none again: bound()", x.bound(), -1);
    }

    private static void boundIsTheSumDividedRoundedUp() {
        Check.sentence("Promise 11", "divided by how many rounds have hours, rounded up");
        BalanceRounds x = new BalanceRounds();
        x.carrier(0, 1);
        Check.due("no areas: bound()", x.bound(), 0);
        for (int i = 0; i < 12; i++) {
            x.area(1, 0);
        }
        Check.due("12 by one: bound()", x.bound(), 12);
        Towns.hours(x, 1, 1, 1, 1);
        Check.due("12 by four: bound()", x.bound(), 3);
        x.area(1, 0);
        Check.due("13 by four: bound()", x.bound(), 4);
        x.area(2, 0);
        Check.due("15 by four: bound()", x.bound(), 4);
        x.carrier(0, 0);
        Check.due("15 by three: bound()", x.bound(), 5);
        x.carrier(1, 0);
        Check.due("15 by two: bound()", x.bound(), 8);

        BalanceRounds full = Towns.alike(MOST_AREAS, MOST_LOAD, 0);
        full.carrier(3, MOST_HOURS);
        Check.due("the greatest sum by one: bound()", full.bound(), MOST_AREAS * MOST_LOAD);
        Towns.hours(full, 1, 1, 1, 1);
        Check.due("the greatest sum by four: bound()", full.bound(), MOST_AREAS * MOST_LOAD / 4);
    }

    private static void boundIsTheGreatestOfOneAreaIfMore() {
        Check.sentence("Promise 11", "or the greatest such load of one area, if that is more");
        BalanceRounds x = Towns.areas(0, 1, 10, 9);
        Towns.hours(x, 1, 1);
        Check.due("as much as half the sum: bound()", x.bound(), 10);
        x.area(1, 0);
        Check.due("less than half the sum: bound()", x.bound(), 11);
        x.carrier(2, 1);
        Check.due("more than a third of the sum: bound()", x.bound(), 10);
        Towns.hours(x, 0, 1, 1);
        x.know(1, 2);
        x.area(0, 0);
        Check.due("9 and 9 of 20: bound()", x.bound(), 10);
        x.carrier(0, 1);
        Check.due("a known 10 is 9: bound()", x.bound(), 9);
    }

    private static void boundTakesEachAreaWhereItIsLightest() {
        Check.sentence("Promise 11", "the sum of what each area has where it is lightest");
        BalanceRounds x = Towns.areas(0, 10, 20);
        Towns.hours(x, 5, 0, 0, 5);
        Check.due("known nowhere: bound()", x.bound(), 20);
        x.area(30, 0);
        Check.due("60 by two: bound()", x.bound(), 30);
        x.know(3, 1);
        x.know(0, 2);
        Check.due("9 and 18 and 30, known in different rounds: bound()", x.bound(), 30);
        x.know(0, 3);
        x.know(3, 3);
        Check.due("9 and 18 and 27, one known in both: bound()", x.bound(), 27);
        x.carrier(3, 0);
        Check.due("10 and 18 and 27, by one: bound()", x.bound(), 55);
    }

    private static void boundCountsNoRoundWithoutHours() {
        Check.sentence("Promise 11", "(Rounds without hours count for nothing.)");
        BalanceRounds x = Towns.areas(0, 10, 10);
        x.carrier(1, 1);
        Check.due("three rounds without hours divide nothing: bound()", x.bound(), 20);
        x.know(0, 1);
        x.know(2, 1);
        x.know(3, 1);
        Check.due("known in rounds without hours: bound()", x.bound(), 20);
        x.know(1, 1);
        Check.due("known in the one with hours: bound()", x.bound(), 19);
        x.carrier(0, 1);
        Check.due("two with hours: bound()", x.bound(), 10);
    }

    private static void noShareWithoutFaultsIsBelowTheBound() {
        Check.sentence("Promise 11", "What no share without faults can be below in its greatest load");
        for (int known = 0; known < 16; known++) {
            BalanceRounds x = Towns.areas(0, 11, 7, 5, 3 + known);
            Towns.joinAll(x, 4);
            Towns.hours(x, 40, 40, 40 * (known % 2), 0);
            for (int area = 1; area <= 4; area++) {
                if ((known >> area - 1 & 1) == 1) {
                    x.know(area % 3, area);
                }
            }
            long greatest = x.solve(0);
            Check.due("run " + known + ": faults()", x.faults(), 0);
            Check.due("run " + known + ": bound() is not above", x.bound() <= greatest, true);
        }
        BalanceRounds even = Towns.areas(0, 4, 4, 4, 4);
        Towns.hours(even, 4, 4, 4, 4);
        Check.due("shared evenly: solve(0)", even.solve(0), even.bound());
    }

    private static void promise12() {
        tooLargeIsCountedFromZero();
        tooLargeIsHeavierThanHours();
        tooLargeIsSoInEachRoundWithHours();
        tooLargeIsZeroWhenThereIsNone();
        tooLargeIsZeroWithoutHours();
    }

    private static void tooLargeIsCountedFromZero() {
        Check.sentence("Promise 12", "The i-th area (0 the first)");
        BalanceRounds x = Towns.areas(0, 10, 20, 5, 11, 12);
        x.carrier(1, 10);
        Check.due("tooLarge(0)", x.tooLarge(0), 2);
        Check.due("tooLarge(1)", x.tooLarge(1), 4);
        Check.due("tooLarge(2)", x.tooLarge(2), 5);
        Check.due("tooLarge(3)", x.tooLarge(3), 0);
        BalanceRounds full = Towns.alike(MOST_AREAS, MOST_LOAD, 0);
        full.carrier(0, MOST_LOAD - 1);
        for (int i = 0; i < MOST_AREAS; i++) {
            Check.due("30 too large: tooLarge(" + i + ")", full.tooLarge(i), i + 1);
        }
        Check.due("30 too large: tooLarge(30)", full.tooLarge(MOST_AREAS), 0);
    }

    private static void tooLargeIsHeavierThanHours() {
        Check.sentence("Promise 12", "heavier than these");
        BalanceRounds x = Towns.areas(0, 11);
        x.carrier(2, 12);
        Check.due("11 with 12 hours: tooLarge(0)", x.tooLarge(0), 0);
        x.carrier(2, 11);
        Check.due("11 with 11 hours: tooLarge(0)", x.tooLarge(0), 0);
        x.carrier(2, 10);
        Check.due("11 with 10 hours: tooLarge(0)", x.tooLarge(0), 1);
        x.know(2, 1);
        Check.due("a known 11, which is 10, with 10 hours: tooLarge(0)", x.tooLarge(0), 0);
        x.carrier(2, 9);
        Check.due("a known 11, which is 10, with 9 hours: tooLarge(0)", x.tooLarge(0), 1);
        BalanceRounds light = Towns.areas(0, 0);
        light.carrier(0, 1);
        Check.due("no load: tooLarge(0)", light.tooLarge(0), 0);
    }

    private static void tooLargeIsSoInEachRoundWithHours() {
        Check.sentence("Promise 12", "that is, in each round with hours");
        BalanceRounds x = Towns.areas(0, 20);
        Towns.hours(x, 19, 1, 5, 0);
        Check.due("too large in three, the fourth without hours: tooLarge(0)", x.tooLarge(0), 1);
        x.know(3, 1);
        Check.due("known where there are no hours: tooLarge(0)", x.tooLarge(0), 1);
        x.carrier(3, 18);
        Check.due("not in round 3, where it is known: tooLarge(0)", x.tooLarge(0), 0);
        for (int fits = 0; fits <= 3; fits++) {
            BalanceRounds y = Towns.areas(0, 20);
            for (int round = 0; round <= 3; round++) {
                y.carrier(round, round == fits ? 20 : 19);
            }
            Check.due("it fits in round " + fits + " alone: tooLarge(0)", y.tooLarge(0), 0);
        }
    }

    private static void tooLargeIsZeroWhenThereIsNone() {
        Check.sentence("Promise 12", "0 when there is none such");
        BalanceRounds x = new BalanceRounds();
        x.carrier(0, 5);
        Check.due("no areas: tooLarge(0)", x.tooLarge(0), 0);
        x.area(5, 0);
        Check.due("none too large: tooLarge(0)", x.tooLarge(0), 0);
        x.area(6, 0);
        Check.due("one too large: tooLarge(0)", x.tooLarge(0), 2);
        for (int i : new int[] {1, 2, 31, 32, 33, Integer.MAX_VALUE, -1, -2, Integer.MIN_VALUE}) {
            Check.due("one too large: tooLarge(" + i + ")", x.tooLarge(i), 0);
        }
    }

    private static void tooLargeIsZeroWithoutHours() {
        Check.sentence("Promise 12", "0 when there is none such, or no round has hours");
        BalanceRounds x = Towns.areas(0, 5, MOST_LOAD);
        Check.due("no hours: tooLarge(0)", x.tooLarge(0), 0);
        x.carrier(0, 1);
        Check.due("an hour: tooLarge(0)", x.tooLarge(0), 1);
        x.carrier(0, 0);
        Check.due("no hours again: tooLarge(0)", x.tooLarge(0), 0);
        Check.due("no hours again: tooLarge(1)", x.tooLarge(1), 0);
    }

    private static void promise13() {
        Check.sentence("Promise 13", "Whether it is solved, and was so EXACTLY");
        BalanceRounds x = new BalanceRounds();
        for (int areas = 0; areas <= 8; areas++) {
            Check.due(areas + " areas, not solved: exact()", x.exact(), false);
            x.solve(-1);
            Check.due(areas + " areas, solve refused: exact()", x.exact(), false);
            x.solve(0);
            Check.due(areas + " areas, solved: exact()", x.exact(), true);
            x.solve(MOST_STEPS + 1);
            Check.due(areas + " areas, solved, then refused: exact()", x.exact(), true);
            x.area(1, 0);
        }
        for (int areas = 9; areas <= MOST_AREAS; areas++) {
            Check.due(areas + " areas, not solved: exact()", x.exact(), false);
            x.solve(MOST_STEPS);
            Check.due(areas + " areas, solved: exact()", x.exact(), false);
            Check.due(areas + " areas are solved: changed()", x.changed() != STATE, true);
            x.area(1, 0);
        }
    }
}
