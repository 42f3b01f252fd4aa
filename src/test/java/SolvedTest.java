/** Each sentence of "Terms" on how it is SOLVED, and how long it holds, has a test of its own. */
public final class SolvedTest {
    private static final long MOST_STEPS = 100000;

    public static void main(String[] args) {
        eightAreasOrLessExactly();
        withMoreByMoves();
        exactlyTheLeastCost();
        exactlyTheLeastRow();
        fromTodaysShareOn();
        areasInTheirOrder();
        roundsInTheirOrder();
        onlyIfItIsInAnotherRound();
        theFirstThatIsLessIsDone();
        oneThatIsEqualIsNotDone();
        itBeginsAnewWithAreaOne();
        untilNoneIsLess();
        soManyMovesAsSteps();
        theLastOneIsDoneToo();
        holdsUntilAnAreaComes();
        holdsUntilHoursChange();
        holdsUntilJoinedChanges();
        holdsUntilKnownChanges();
        holdsUntilLoadsChange();
        holdsWhileNothingChanges();
        Check.end();
    }

    private static void eightAreasOrLessExactly() {
        Check.sentence("Terms", "SOLVED: with eight areas or less EXACTLY");
        BalanceRounds eight = Towns.twoStars();
        Check.due("eight areas, no steps: solve", eight.solve(0), 9);
        Check.due("eight areas, all steps: solve", eight.solve(MOST_STEPS), 9);
        Check.due("eight areas: exact()", eight.exact(), true);
        for (int count = 0; count <= 7; count++) {
            BalanceRounds x = Towns.alike(count, 5, 1);
            Towns.joinAll(x, count);
            Towns.hours(x, 100, 100, 100, 100);
            Check.due(count + " areas, no steps: solve", x.solve(0), 5 * ((count + 3) / 4));
            Check.due(count + " areas: exact()", x.exact(), true);
        }
    }

    private static void withMoreByMoves() {
        Check.sentence("Terms", "With more: from today's share on, by MOVES");
        BalanceRounds nine = Towns.twoStars();
        nine.area(0, 0);
        nine.joined(1, 9, false);
        Check.due("nine areas, no move helps: solve", nine.solve(MOST_STEPS), 10);
        Check.due("nine areas: changed()", nine.changed(), 0);
        Check.due("nine areas: exact()", nine.exact(), false);
        BalanceRounds all = Towns.alike(30, 1, 0);
        Towns.joinAll(all, 30);
        Towns.hours(all, 100, 100);
        Check.due("30 areas: solve", all.solve(MOST_STEPS), 15);
        Check.due("30 areas: exact()", all.exact(), false);
    }

    private static void exactlyTheLeastCost() {
        Check.sentence("Terms", "the share with the least cost");
        // Nine each: 8 with 1, 7 with 2, 6 with 3, 5 with 4; two of the eight can stay.
        BalanceRounds x = Towns.areas(0, 8, 7, 6, 5, 4, 3, 2, 1);
        Towns.joinAll(x, 8);
        Towns.hours(x, 9, 9, 9, 9);
        Check.due("36 in four rounds: solve", x.solve(0), 9);
        Check.due("36 in four rounds: faults()", x.faults(), 0);
        Check.due("36 in four rounds: changed()", x.changed(), 6);
        Check.dueShare("36 in four rounds", x, 0, 1, 2, 3, 3, 2, 1, 0);
        Towns.hours(x, 0, 0, 0, 0);
        Check.due("the same without hours: solve", x.solve(0), 9);
        Check.due("the same without hours: faults()", x.faults(), 8);
        Check.dueShare("the same without hours", x, 0, 1, 2, 3, 3, 2, 1, 0);
    }

    private static void exactlyTheLeastRow() {
        Check.sentence("Terms", "of several the one whose row of rounds (area 1's, then area 2's, ..) is least");
        BalanceRounds x = Towns.areas(3, 5, 5);
        Towns.hours(x, 10, 10, 10);
        x.solve(0);
        Check.dueShare("of all rows of two different rounds", x, 0, 1);
        BalanceRounds y = Towns.areas(1, 5, 5);
        Towns.hours(y, 10, 10);
        y.solve(0);
        Check.dueShare("area 1 goes to a lesser round", y, 0, 1);
        BalanceRounds z = Towns.areas(0, 5, 5);
        Towns.hours(z, 10, 10);
        z.solve(0);
        Check.dueShare("area 2 goes to a greater round", z, 0, 1);
        BalanceRounds last = Towns.areas(0, 0, 0, 0, 0, 0, 0, 9, 9);
        Towns.joinAll(last, 8);
        Towns.hours(last, 50, 0, 50, 50);
        last.solve(0);
        Check.dueShare("the row differs in areas 7 and 8", last, 0, 0, 0, 0, 0, 0, 0, 2);
        BalanceRounds eight = Towns.alike(8, 1, 0);
        Towns.joinAll(eight, 8);
        Towns.hours(eight, 10, 10, 10, 10);
        eight.solve(0);
        Check.dueShare("of many rows of two areas a round", eight, 0, 0, 1, 1, 2, 2, 3, 3);
    }

    /** Nine areas of load 1 in round 0, all joined, rounds 0 and 1 with hours. */
    private static BalanceRounds nineAreas() {
        BalanceRounds x = Towns.alike(9, 1, 0);
        Towns.joinAll(x, 9);
        Towns.hours(x, 100, 100);
        return x;
    }

    private static void fromTodaysShareOn() {
        Check.sentence("Terms", "from today's share on");
        BalanceRounds x = nineAreas();
        Check.due("no steps: solve", x.solve(0), 9);
        Check.due("no steps: changed()", x.changed(), 0);
        Check.due("all steps: solve", x.solve(MOST_STEPS), 5);
        Check.due("one step, not from the share before: solve", x.solve(1), 8);
        Check.dueShare("one step", x, 1, 0, 0, 0, 0, 0, 0, 0, 0);
        Check.due("no steps again: solve", x.solve(0), 9);

        BalanceRounds grown = Towns.alike(8, 1, 0);
        Towns.joinAll(grown, 8);
        Towns.hours(grown, 100, 100);
        Check.due("eight areas, exactly: solve", grown.solve(0), 4);
        grown.area(1, 0);
        Check.due("one more, from today and not from the exact share: solve", grown.solve(0), 9);
        Check.due("one more: changed()", grown.changed(), 0);
    }

    private static void areasInTheirOrder() {
        Check.sentence("Terms", "by MOVES: for areas in their order");
        BalanceRounds x = Towns.areas(0, 1, 5, 1, 1, 1, 1, 1, 1, 1);
        Towns.joinAll(x, 9);
        Towns.hours(x, 100, 100);
        Check.due("area 1, though area 2 helps more: solve(1)", x.solve(1), 12);
        Check.dueShare("area 1 is first", x, 1, 0, 0);

        // Area 9 alone tears round 0, and it can go to round 3 alone: that is the last of 27 moves.
        BalanceRounds last = Towns.areas(0, 0, 0, 0, 0, 0, 0, 0, 0, 1);
        Towns.joinAll(last, 8);
        Towns.hours(last, 100, 0, 0, 100);
        last.solve(26);
        Check.due("26 of 27 moves: faults()", last.faults(), 1);
        last.solve(27);
        Check.due("27 of 27 moves: faults()", last.faults(), 0);
        Check.due("27 of 27 moves: round(9)", last.round(9), 3);
        Check.due("27 of 27 moves: changed()", last.changed(), 1);
    }

    private static void roundsInTheirOrder() {
        Check.sentence("Terms", "for rounds in their order");
        int[] first = {1, 0, 0, 0};
        for (int today = 0; today <= 3; today++) {
            BalanceRounds x = Towns.alike(9, 1, today);
            Towns.joinAll(x, 9);
            Towns.hours(x, 100, 100, 100, 100);
            Check.due("from round " + today + ": solve(1)", x.solve(1), 8);
            Check.due("from round " + today + " to the first other one: round(1)", x.round(1), first[today]);
        }
    }

    private static void onlyIfItIsInAnotherRound() {
        Check.sentence("Terms",
                "the cost is reckoned of the share in which that area is in that round (if it is in another one)");
        for (int today = 0; today <= 3; today++) {
            int last = today == 3 ? 2 : 3;
            BalanceRounds x = Towns.areas(today, 10, 10, 0, 0, 0, 0, 0, 0, 0);
            Towns.joinAll(x, 9);
            x.carrier(today, 100);
            x.carrier(last, 100);
            Check.due("two of three other rounds than " + today + ": solve(2)", x.solve(2), 20);
            Check.due("three of three other rounds than " + today + ": solve(3)", x.solve(3), 10);
            Check.due("the third other round than " + today + ": round(1)", x.round(1), last);
        }
        // Area 1 has no load: three moves for nothing; area 2 to round 1 is the fourth.
        BalanceRounds y = Towns.areas(0, 0, 10, 10, 0, 0, 0, 0, 0, 0);
        Towns.joinAll(y, 9);
        Towns.hours(y, 100, 100);
        Check.due("three moves of area 1: solve(3)", y.solve(3), 20);
        Check.due("the fourth is area 2's: solve(4)", y.solve(4), 10);
        Check.dueShare("the fourth", y, 0, 1, 0);
    }

    private static void theFirstThatIsLessIsDone() {
        Check.sentence("Terms", "the first one that is less is done");
        BalanceRounds x = Towns.areas(0, 4, 10, 0, 0, 0, 0, 0, 0, 0);
        x.area(9, 1);
        Towns.joinAll(x, 10);
        Towns.hours(x, 100, 100, 100);
        Check.due("round 1 is less, though round 2 is still less: solve(1)", x.solve(1), 13);
        Check.due("round(1)", x.round(1), 1);
        Check.due("then to 0, and to 2: solve(3)", x.solve(3), 10);
        Check.due("round(1) after three", x.round(1), 2);
    }

    private static void oneThatIsEqualIsNotDone() {
        Check.sentence("Terms", "one that is less");
        // After area 1 went to round 1, round 2 costs as much.
        BalanceRounds x = nineAreas();
        x.carrier(2, 100);
        Check.due("area 1 to 1, then to 0 and 2: solve(3)", x.solve(3), 8);
        Check.dueShare("round 2 is as good as 1, not less", x, 1, 0, 0);
        Check.due("changed()", x.changed(), 1);
    }

    private static void itBeginsAnewWithAreaOne() {
        Check.sentence("Terms", "and it begins anew with area 1");
        // Today 10, 9 and 0: area 1 gains nothing, as round 0 is the greatest, until area 2 left it.
        BalanceRounds x = new BalanceRounds();
        x.area(3, 1);
        x.area(6, 0);
        x.area(4, 0);
        x.area(6, 1);
        for (int area = 5; area <= 9; area++) {
            x.area(0, 2);
        }
        Towns.joinAll(x, 9);
        Towns.hours(x, 100, 100, 100);
        Check.due("three of area 1, one of area 2: solve(4)", x.solve(4), 10);
        Check.due("area 2 to round 2: solve(5)", x.solve(5), 9);
        Check.dueShare("five moves", x, 1, 2, 0, 1);
        Check.due("area 1 again, to round 0: solve(6)", x.solve(6), 7);
        Check.dueShare("six moves", x, 0, 2, 0, 1);
    }

    private static void untilNoneIsLess() {
        Check.sentence("Terms", "until none is less");
        BalanceRounds best = new BalanceRounds();
        for (int i = 0; i < 12; i++) {
            best.area(5, i % 4);
        }
        Towns.joinAll(best, 12);
        Towns.hours(best, 100, 100, 100, 100);
        Check.due("none is less at once: solve", best.solve(MOST_STEPS), 15);
        Check.due("none is less at once: changed()", best.changed(), 0);

        BalanceRounds x = nineAreas();
        Check.due("four areas go: solve", x.solve(MOST_STEPS), 5);
        Check.dueShare("four areas go", x, 1, 1, 1, 1, 0, 0, 0, 0, 0);
    }

    private static void soManyMovesAsSteps() {
        Check.sentence("Terms", "or the cost of so many moves was reckoned as there may be STEPS");
        BalanceRounds x = nineAreas();
        Check.due("none: solve(0)", x.solve(0), 9);
        // Area 1 to 1; then to 0, 2, 3 for nothing, and area 2 to 1 is the fifth one.
        Check.due("solve(4)", x.solve(4), 8);
        Check.due("solve(5)", x.solve(5), 7);
        // Area 1 to 0, 2, 3, area 2 to 0, 2, 3, area 3 to 1: the twelfth one.
        Check.due("solve(11)", x.solve(11), 7);
        Check.due("solve(12)", x.solve(12), 6);

        // Area k goes after three moves for nothing of each one before it: 1 + 4 + 7 + .. + 88 are 1335.
        BalanceRounds all = Towns.alike(30, 0, 1);
        Towns.joinAll(all, 30);
        all.carrier(0, 1);
        all.solve(1334);
        Check.due("solve(1334): changed()", all.changed(), 29);
        all.solve(1335);
        Check.due("solve(1335): changed()", all.changed(), 30);
    }

    private static void theLastOneIsDoneToo() {
        Check.sentence("Terms", "(the one that is reckoned last is done, too, if it is less)");
        BalanceRounds x = nineAreas();
        Check.due("one, and less: solve(1)", x.solve(1), 8);
        Check.dueShare("one, and less", x, 1, 0, 0);
        BalanceRounds y = nineAreas();
        y.carrier(1, 0);
        y.carrier(2, 100);
        Check.due("one, and not less: solve(1)", y.solve(1), 9);
        Check.dueShare("one, and not less", y, 0, 0, 0);
        Check.due("two, and less: solve(2)", y.solve(2), 8);
        Check.dueShare("two, and less", y, 2, 0, 0);
    }

    /** Two joined areas in round 0, solved exactly, or with nine more in round 3, solved by moves. */
    private static BalanceRounds[] solvedTowns() {
        BalanceRounds[] towns = {Towns.areas(0, 5, 5), Towns.areas(0, 5, 5)};
        Towns.fillRound3(towns[1], 2);
        for (BalanceRounds x : towns) {
            x.joined(1, 2, false);
            x.carrier(0, 10);
            x.know(0, 1);
            x.solve(10);
        }
        return towns;
    }

    private static void holdsUntilAnAreaComes() {
        Check.sentence("Terms", "It holds until an area comes");
        for (BalanceRounds x : solvedTowns()) {
            Check.dueHolds("solved", x, true);
            x.area(0, 3);
            Check.dueHolds("an area without load came", x, false);
            Check.due("an area came: exact()", x.exact(), false);
            x.solve(0);
            Check.dueHolds("solved again", x, true);
        }
    }

    private static void holdsUntilHoursChange() {
        Check.sentence("Terms", "or anything of loads, hours");
        for (BalanceRounds x : solvedTowns()) {
            x.carrier(2, 1);
            Check.dueHolds("hours of a round without areas", x, false);
            Check.due("other hours: exact()", x.exact(), false);
            x.solve(0);
            x.carrier(0, 11);
            Check.dueHolds("an hour more", x, false);
            x.solve(0);
            x.carrier(0, 0);
            Check.dueHolds("no hours more", x, false);
            x.carrier(0, 11);
            Check.dueHolds("the hours that were solved with again", x, false);
        }
    }

    private static void holdsUntilJoinedChanges() {
        Check.sentence("Terms", "what is joined or known changes");
        for (BalanceRounds x : solvedTowns()) {
            x.joined(2, 1, true);
            Check.dueHolds("a way barred", x, false);
            Check.due("a way barred: exact()", x.exact(), false);
            x.joined(1, 2, false);
            Check.dueHolds("the way that was solved with again", x, false);
            x.joined(1, 2, true);
            x.solve(0);
            x.joined(1, 2, false);
            Check.dueHolds("a way opened", x, false);
        }
    }

    private static void holdsUntilKnownChanges() {
        Check.sentence("Terms", "what is joined or known changes");
        for (BalanceRounds x : solvedTowns()) {
            x.know(2, 2);
            Check.dueHolds("known in a round where it is not", x, false);
            Check.due("known: exact()", x.exact(), false);
        }
        BalanceRounds light = Towns.areas(0, 0);
        light.solve(0);
        light.know(0, 1);
        Check.dueHolds("known, though its load of 0 stays", light, false);
    }

    /** Told loads never change; those in a round do by what is known, and what was asked before must not stay. */
    private static void holdsUntilLoadsChange() {
        Check.sentence("Terms", "It holds until an area comes, or anything of loads");
        BalanceRounds x = Towns.areas(0, 10);
        x.carrier(0, 10);
        Check.due("solve with load 10", x.solve(0), 10);
        x.know(0, 1);
        Check.dueHolds("lighter", x, false);
        Check.due("solve with load 9", x.solve(0), 9);
    }

    private static void holdsWhileNothingChanges() {
        Check.sentence("Terms", "It holds until");
        BalanceRounds[] towns = solvedTowns();
        for (int i = 0; i < towns.length; i++) {
            BalanceRounds x = towns[i];
            int round1 = x.round(1);
            int changed = x.changed();
            int faults = x.faults();
            x.carrier(0, 10);
            x.carrier(1, 0);
            x.joined(1, 2, false);
            x.joined(2, 1, false);
            x.know(0, 1);
            x.bound();
            x.tooLarge(0);
            x.exact();
            Check.together(x, 3);
            Check.dueHolds("told what was so, and asked", x, true);
            Check.due("exact() still", x.exact(), i == 0);
            Check.due("round(1) still", x.round(1), round1);
            Check.due("changed() still", x.changed(), changed);
            Check.due("faults() still", x.faults(), faults);
        }
        BalanceRounds apart = Towns.areas(0, 1, 1);
        apart.solve(0);
        apart.joined(1, 2, true);
        Check.dueHolds("barred, and not joined before: what is joined is as before", apart, true);
    }
}
