/** Each sentence of "Terms" on areas, rounds, ways and costs that names a boundary case has a test of its own. */
public final class TermsTest {
    private static final int UNKNOWN = -11, OUTSIDE = -12, ROOM = -14;
    private static final int MOST_AREAS = 30;
    private static final long MOST_LOAD = 1000000;

    public static void main(String[] args) {
        areasAreOneToThirty();
        todaysRoundIsZeroToThree();
        hoursAreZeroAtFirst();
        knownIsLighterInThatRoundAlone();
        nineTenthsAreRoundedUp();
        joinedAreThoseToldAndNotBarred();
        eachAreaHasARound();
        loadOfARoundIsTheSumThere();
        oneOrNoneHangTogether();
        waysGoFromEachToEachOther();
        waysGoOverAreasOfThatRound();
        eachAreaWithoutHoursIsAFault();
        eachRoundAboveItsHoursIsAFault();
        eachTornRoundIsAFault();
        changedIsAgainstToday();
        aFaultCostsMoreThanAnyLoad();
        eachFaultCosts();
        oneOfLoadCostsMoreThanAllChanges();
        theGreatestLoadOfARoundCosts();
        eachChangedAreaCosts();
        Check.end();
    }

    private static void areasAreOneToThirty() {
        Check.sentence("Terms", "AREAS 1, 2, .. (30 at most)");
        BalanceRounds x = new BalanceRounds();
        for (int number = 1; number <= MOST_AREAS; number++) {
            Check.due("round of an area yet to come", x.round(number), UNKNOWN);
            Check.due("area", x.area(number, 0), number);
        }
        Check.due("area, the 31st", x.area(1, 0), ROOM);
        x.solve(0);
        Check.due("round(0)", x.round(0), UNKNOWN);
        Check.due("round(1)", x.round(1), 0);
        Check.due("round(30)", x.round(30), 0);
        Check.due("round(31)", x.round(31), UNKNOWN);
    }

    private static void todaysRoundIsZeroToThree() {
        Check.sentence("Terms", "have a LOAD and TODAY's round, 0 .. 3");
        BalanceRounds x = new BalanceRounds();
        Check.due("area(1, -1)", x.area(1, -1), OUTSIDE);
        Check.due("area(1, 4)", x.area(1, 4), OUTSIDE);
        for (int round = 0; round <= 3; round++) {
            Check.due("area(1, " + round + ")", x.area(1, round), round + 1);
        }
        x.solve(0);
        Check.dueShare("exactly", x, 0, 1, 2, 3);
        Towns.fillRound3(x, 4);
        x.solve(0);
        Check.dueShare("by moves", x, 0, 1, 2, 3);
    }

    private static void hoursAreZeroAtFirst() {
        Check.sentence("Terms", "A round's carrier has HOURS (0 at first)");
        BalanceRounds x = Towns.areas(0, 1);
        x.solve(0);
        Check.due("faults() without hours", x.faults(), 1);
        Check.due("bound() without hours", x.bound(), -1);
        for (int round = 0; round <= 3; round++) {
            Check.due("carrier(" + round + ", 5)", x.carrier(round, 5), 0);
        }
    }

    private static void knownIsLighterInThatRoundAlone() {
        Check.sentence("Terms", "and may KNOW areas: such a one is lighter in that round");
        BalanceRounds x = Towns.areas(0, 10, 10);
        Towns.fillRound3(x, 2);
        x.know(1, 1);
        Check.due("solve, area 1 known in round 1, where it is not", x.solve(0), 20);
        x.know(0, 2);
        Check.due("solve, area 2 known where it is", x.solve(0), 19);
        x.know(0, 1);
        Check.due("solve, both known where they are", x.solve(0), 18);

        BalanceRounds all = Towns.alike(MOST_AREAS, 10, 3);
        for (int area = 1; area <= MOST_AREAS; area++) {
            Check.due("solve, " + (area - 1) + " of 30 known", all.solve(0), 300 - (area - 1));
            all.know(3, area);
        }
        Check.due("solve, all 30 known", all.solve(0), 270);
    }

    private static void nineTenthsAreRoundedUp() {
        Check.sentence("Terms", "nine tenths of its load, rounded up");
        long[] loads = {0, 1, 2, 9, 10, 11, 12, 19, 20, 21, 999990, 999991, 999999, MOST_LOAD};
        long[] known = {0, 1, 2, 9, 9, 10, 11, 18, 18, 19, 899991, 899992, 900000, 900000};
        for (int i = 0; i < loads.length; i++) {
            BalanceRounds x = Towns.areas(0, loads[i]);
            x.carrier(0, MOST_LOAD);
            x.know(0, 1);
            Check.due("solve with a known load of " + loads[i], x.solve(0), known[i]);
            Check.due("bound with a known load of " + loads[i], x.bound(), known[i]);
        }
        BalanceRounds x = Towns.areas(0, 5, 5);
        x.joined(1, 2, false);
        x.carrier(0, 100);
        x.know(0, 1);
        x.know(0, 2);
        Check.due("solve, each of two rounded by itself", x.solve(0), 10);
    }

    private static void joinedAreThoseToldAndNotBarred() {
        Check.sentence("Terms",
                "Two areas are JOINED when they were told to be, and the way between them is not BARRED");
        BalanceRounds x = Towns.areas(0, 1, 1);
        Towns.fillRound3(x, 2);
        dueTogether("never told", x, false);
        x.joined(1, 2, true);
        dueTogether("told barred", x, false);
        x.joined(1, 2, false);
        dueTogether("then told open", x, true);
        x.joined(2, 1, true);
        dueTogether("then told barred, from the other one", x, false);
        x.joined(2, 1, true);
        dueTogether("barred twice", x, false);
        x.joined(2, 1, false);
        dueTogether("open again", x, true);
        x.joined(1, 2, false);
        dueTogether("open twice", x, true);
    }

    private static void dueTogether(String name, BalanceRounds x, boolean together) {
        x.solve(0);
        Check.due(name + ": together(0)", Check.together(x, 0), together ? 1 : 0);
    }

    private static void eachAreaHasARound() {
        Check.sentence("Terms", "A SHARE gives each area a round");
        for (int count : new int[] {0, 1, 8, 9, MOST_AREAS}) {
            BalanceRounds x = Towns.alike(count, 7, 1);
            Towns.hours(x, 5, 0, 100);
            x.solve(100000);
            for (int area = 1; area <= count; area++) {
                int round = x.round(area);
                Check.due(count + " areas: round(" + area + ") is 0 .. 3", round >= 0 && round <= 3, true);
            }
            Check.due(count + " areas: round of one more", x.round(count + 1), UNKNOWN);
        }
    }

    private static void loadOfARoundIsTheSumThere() {
        Check.sentence("Terms", "The load of a round is the sum of its areas' loads there");
        BalanceRounds x = Towns.alike(MOST_AREAS, MOST_LOAD, 2);
        Check.due("solve, all areas with all load in one round", x.solve(0), MOST_AREAS * MOST_LOAD);
        BalanceRounds none = Towns.alike(MOST_AREAS, 0, 2);
        Check.due("solve, areas without load", none.solve(0), 0);
    }

    private static void oneOrNoneHangTogether() {
        Check.sentence("Terms", "(so with one or none)");
        BalanceRounds none = new BalanceRounds();
        none.solve(0);
        for (int round = 0; round <= 3; round++) {
            Check.due("no areas: together(" + round + ")", Check.together(none, round), 1);
        }
        BalanceRounds x = Towns.areas(0, 1);
        x.area(1, 1);
        x.area(1, 1);
        Towns.fillRound3(x, 3);
        x.solve(0);
        Check.due("one: together(0)", Check.together(x, 0), 1);
        Check.due("two that are not joined: together(1)", Check.together(x, 1), 0);
        Check.due("none: together(2)", Check.together(x, 2), 1);
    }

    private static void waysGoFromEachToEachOther() {
        Check.sentence("Terms", "its areas hang TOGETHER if from each to each other one there is a way");
        int[] chain = new int[MOST_AREAS];
        for (int i = 0; i < MOST_AREAS; i++) {
            chain[i] = i % 2 == 0 ? 1 + i / 2 : MOST_AREAS - i / 2;
        }
        BalanceRounds x = Towns.alike(MOST_AREAS, 1, 0);
        Towns.joinChain(x, chain);
        dueTogether("a chain of 30 to and fro", x, true);
        for (int i = 1; i < MOST_AREAS; i++) {
            x.joined(chain[i - 1], chain[i], true);
            dueTogether("way " + i + " of the chain barred", x, false);
            x.joined(chain[i - 1], chain[i], false);
        }
        dueTogether("the chain whole again", x, true);

        BalanceRounds pairs = Towns.areas(0, 1, 1, 1, 1);
        Towns.fillRound3(pairs, 4);
        pairs.joined(1, 2, false);
        pairs.joined(3, 4, false);
        dueTogether("two pairs", pairs, false);
        pairs.joined(4, 1, false);
        dueTogether("two pairs with a way", pairs, true);
    }

    private static void waysGoOverAreasOfThatRound() {
        Check.sentence("Terms", "a way over areas of that round that are joined");
        BalanceRounds x = Towns.areas(0, 1, 1);
        x.area(1, 1);
        Towns.fillRound3(x, 3);
        Towns.joinChain(x, 1, 3, 2);
        dueTogether("a way over an area of another round", x, false);
        x.joined(1, 2, false);
        dueTogether("a way of their own", x, true);
    }

    private static void eachAreaWithoutHoursIsAFault() {
        Check.sentence("Terms", "FAULTS of a share: each area in a round whose carrier has no hours");
        BalanceRounds x = Towns.areas(0, 0, 1, 5);
        Towns.joinAll(x, 3);
        Towns.fillRound3(x, 3);
        dueFaults("three areas, one without load", x, 3);
        x.carrier(0, 6);
        dueFaults("the carrier has hours", x, 0);
        x.carrier(0, 0);
        dueFaults("the carrier has none again", x, 3);
        BalanceRounds light = Towns.areas(0, 0);
        Towns.fillRound3(light, 1);
        dueFaults("one area without load alone", light, 1);
        BalanceRounds all = Towns.alike(MOST_AREAS, 1, 0);
        for (int area = 2; area <= MOST_AREAS; area++) {
            all.joined(1, area, false);
        }
        dueFaults("30 areas that hang together", all, MOST_AREAS);
    }

    private static void dueFaults(String name, BalanceRounds x, int faults) {
        x.solve(0);
        Check.due(name + ": faults()", x.faults(), faults);
    }

    private static void eachRoundAboveItsHoursIsAFault() {
        Check.sentence("Terms", "each round with hours whose load is above them");
        BalanceRounds x = Towns.areas(0, 4, 6);
        x.joined(1, 2, false);
        Towns.fillRound3(x, 2);
        x.carrier(0, 11);
        dueFaults("one hour more than load", x, 0);
        x.carrier(0, 10);
        dueFaults("as many hours as load", x, 0);
        x.carrier(0, 9);
        dueFaults("one hour less than load", x, 1);
        x.carrier(0, 1);
        dueFaults("far less hours than load", x, 1);
        x.carrier(0, 0);
        dueFaults("no hours: each area, and the round not once more", x, 2);
        x.carrier(0, 9);
        x.know(0, 2);
        dueFaults("4 and a known 6 are 10", x, 1);

        BalanceRounds known = Towns.areas(0, 10);
        Towns.fillRound3(known, 1);
        known.carrier(0, 9);
        dueFaults("10 above 9", known, 1);
        known.know(0, 1);
        dueFaults("a known 10 is not above 9", known, 0);

        BalanceRounds four = Towns.areas(0, 2);
        for (int round = 1; round <= 3; round++) {
            four.area(2, round);
        }
        Towns.fillRound3(four, 4);
        four.joined(4, 5, false);
        Towns.hours(four, 1, 1, 1, 1);
        dueFaults("all four rounds above", four, 4);
        Towns.hours(four, 2, 2, 2, 2);
        dueFaults("none of four above", four, 0);
    }

    private static void eachTornRoundIsAFault() {
        Check.sentence("Terms", "each round whose areas do not hang together");
        BalanceRounds x = Towns.areas(0, 1, 1, 1);
        Towns.fillRound3(x, 3);
        x.carrier(0, 10);
        dueFaults("three pieces are one fault", x, 1);
        x.carrier(0, 0);
        dueFaults("torn, and three without hours", x, 4);
        x.carrier(0, 2);
        dueFaults("torn, and above", x, 2);

        BalanceRounds four = new BalanceRounds();
        for (int i = 0; i < 9; i++) {
            four.area(1, i % 4);
        }
        Towns.hours(four, 10, 10, 10, 10);
        dueFaults("all four rounds torn", four, 4);
        Towns.hours(four, 1, 1, 1, 1);
        dueFaults("all four torn and above", four, 8);
        Towns.hours(four, 0, 0, 0, 0);
        dueFaults("all four torn and without hours", four, 13);
    }

    private static void changedIsAgainstToday() {
        Check.sentence("Terms", "CHANGED are areas whose round is not today's");
        BalanceRounds x = Towns.areas(3, 1);
        x.carrier(3, 5);
        x.solve(0);
        Check.due("stays: changed()", x.changed(), 0);
        x.carrier(3, 0);
        x.carrier(0, 5);
        x.solve(0);
        Check.due("goes: changed()", x.changed(), 1);
        x.solve(0);
        Check.due("the same again, against today and not the share before: changed()", x.changed(), 1);
        x.carrier(3, 5);
        x.carrier(0, 0);
        x.solve(0);
        Check.due("back: changed()", x.changed(), 0);

        BalanceRounds all = Towns.alike(MOST_AREAS, 0, 1);
        Towns.joinAll(all, MOST_AREAS);
        all.carrier(0, 1);
        all.solve(100000);
        Check.due("all 30 go: changed()", all.changed(), MOST_AREAS);
    }

    private static void aFaultCostsMoreThanAnyLoad() {
        Check.sentence("Terms", "The COST of a share: 10^12 for each fault");
        BalanceRounds x = Towns.alike(8, MOST_LOAD, 1);
        Towns.joinAll(x, 8);
        Towns.hours(x, 8 * MOST_LOAD, 1, 1, 1);
        Check.due("solve, half the load for one fault", x.solve(0), 8 * MOST_LOAD);
        Check.dueShare("all where there is no fault", x, 0, 0, 0, 0, 0, 0, 0, 0);
        Check.due("no faults", x.faults(), 0);

        BalanceRounds all = Towns.alike(MOST_AREAS, MOST_LOAD, 1);
        Towns.joinAll(all, MOST_AREAS);
        all.carrier(0, MOST_AREAS * MOST_LOAD);
        Check.due("solve, from 30 faults to the greatest load there is", all.solve(100000), MOST_AREAS * MOST_LOAD);
        Check.due("no faults by moves", all.faults(), 0);
    }

    private static void eachFaultCosts() {
        Check.sentence("Terms", "10^12 for each fault");
        // Load above hours is one fault, however much it is; areas elsewhere, without hours, are one each.
        BalanceRounds x = Towns.areas(0, 10, 10, 10, 10);
        Towns.joinAll(x, 4);
        x.carrier(0, 19);
        Check.due("solve, one fault with load 40 rather than two with 30 or 20", x.solve(0), 40);
        Check.due("one fault", x.faults(), 1);
        x.carrier(0, 20);
        Check.due("solve, two areas elsewhere are two faults", x.solve(0), 40);
        x.carrier(0, 30);
        Check.due("solve, one area elsewhere is one fault with less load", x.solve(0), 30);
        Check.due("one fault still", x.faults(), 1);
        x.carrier(0, 40);
        Check.due("solve, none elsewhere", x.solve(0), 40);
        Check.due("none at all", x.faults(), 0);
    }

    private static void oneOfLoadCostsMoreThanAllChanges() {
        Check.sentence("Terms", "and 100 times the greatest load of a round");
        BalanceRounds x = Towns.twoStars();
        Check.due("solve, one less of load for eight changes", x.solve(0), 9);
        Check.due("changed()", x.changed(), 8);
        Check.dueShare("all eight go", x, 1, 1, 1, 1, 0, 0, 0, 0);
    }

    private static void theGreatestLoadOfARoundCosts() {
        Check.sentence("Terms", "the greatest load of a round");
        BalanceRounds x = Towns.areas(0, 10);
        x.area(10, 1);
        Towns.hours(x, 20, 20, 20);
        x.know(2, 2);
        Check.due("solve, a sum of less is no gain", x.solve(0), 10);
        Check.dueShare("as today", x, 0, 1);

        BalanceRounds y = Towns.areas(3, 5, 6);
        y.joined(1, 2, false);
        Check.due("solve, rounds without hours count", y.solve(0), 6);
        Check.dueShare("one of them goes", y, 0, 3);
    }

    private static void eachChangedAreaCosts() {
        Check.sentence("Terms", "and one for each that is changed");
        BalanceRounds x = Towns.areas(3, 7);
        x.area(7, 2);
        Towns.hours(x, 100, 100, 100, 100);
        Check.due("solve, as good as any", x.solve(0), 7);
        Check.dueShare("today's", x, 3, 2);

        BalanceRounds y = Towns.areas(3, 7, 7, 7);
        Towns.joinAll(y, 3);
        Towns.hours(y, 100, 100, 100, 100);
        Check.due("solve, two must go", y.solve(0), 7);
        Check.dueShare("two and not three", y, 0, 1, 3);
        Check.due("changed()", y.changed(), 2);

        // By moves: nine areas of no load, no move is less by load or faults.
        BalanceRounds nine = Towns.alike(9, 0, 2);
        Towns.joinAll(nine, 9);
        Towns.hours(nine, 100, 100, 100, 100);
        nine.solve(100000);
        Check.due("no load to gain: changed()", nine.changed(), 0);
    }
}
