import java.util.ArrayList;
import java.util.List;
import java.util.function.Supplier;
import java.util.function.ToLongFunction;

/** Each sentence of "Terms" on REFUSALS has a test of its own. */
public final class RefusalsTest {
    private static final int UNKNOWN = -11, OUTSIDE = -12, STATE = -13, ROOM = -14;
    private static final int MOST_AREAS = 30;

    public static void main(String[] args) {
        refusalsAreAnswers();
        unknownComesBeforeOutside();
        unknownComesBeforeState();
        outsideComesBeforeState();
        outsideComesBeforeRoom();
        aRefusedCallChangesNothing();
        aCallThatThrowsChangesNothing();
        Check.end();
    }

    private static void refusalsAreAnswers() {
        Check.sentence("Terms", "REFUSALS are answers");
        BalanceRounds x = Towns.alike(MOST_AREAS, 1, 0);
        Check.due("no such area", x.round(31), UNKNOWN);
        Check.due("a number not as said", x.solve(-1), OUTSIDE);
        Check.due("not solved", x.round(30), STATE);
        Check.due("no room", x.area(1, 0), ROOM);
    }

    private static void unknownComesBeforeOutside() {
        Check.sentence("Terms",
                "of several the first one here: UNKNOWN (there is no such area), OUTSIDE (a number is not as said)");
        BalanceRounds x = Towns.areas(0, 1);
        for (int round : Towns.WRONG_ROUNDS) {
            Check.due("know(" + round + ", 2)", x.know(round, 2), UNKNOWN);
            Check.due("know(" + round + ", 0)", x.know(round, 0), UNKNOWN);
            Check.due("know(" + round + ", 1)", x.know(round, 1), OUTSIDE);
        }
    }

    private static void unknownComesBeforeState() {
        Check.sentence("Terms", "of several the first one here: UNKNOWN (there is no such area)");
        BalanceRounds x = Towns.areas(0, 1);
        Check.due("not solved: round(2)", x.round(2), UNKNOWN);
        Check.due("not solved: round(0)", x.round(0), UNKNOWN);
        Check.due("not solved: round(1)", x.round(1), STATE);
        Check.due("no areas, not solved: round(1)", new BalanceRounds().round(1), UNKNOWN);
    }

    private static void outsideComesBeforeState() {
        Check.sentence("Terms", "OUTSIDE (a number is not as said), STATE (it is not solved)");
        BalanceRounds x = Towns.areas(0, 1);
        for (int round : Towns.WRONG_ROUNDS) {
            Check.due("not solved: together(" + round + ")", Check.together(x, round), Check.THREW_ARGUMENT);
        }
        Check.due("not solved: together(0)", Check.together(x, 0), Check.THREW_STATE);
    }

    private static void outsideComesBeforeRoom() {
        Check.sentence("Terms", "OUTSIDE (a number is not as said), STATE (it is not solved), ROOM");
        BalanceRounds x = Towns.alike(MOST_AREAS, 1, 0);
        Check.due("full: area(-1, 0)", x.area(-1, 0), OUTSIDE);
        Check.due("full: area(1000001, 0)", x.area(1000001, 0), OUTSIDE);
        for (int round : Towns.WRONG_ROUNDS) {
            Check.due("full: area(1, " + round + ")", x.area(1, round), OUTSIDE);
        }
        Check.due("full: area(1, 0)", x.area(1, 0), ROOM);
    }

    private static void aRefusedCallChangesNothing() {
        Check.sentence("Terms", "A call that is refused, or throws, changes nothing");
        for (int areas : new int[] {0, 1, 3, 8, 9, MOST_AREAS}) {
            for (boolean solved : new boolean[] {false, true}) {
                Supplier<BalanceRounds> town = () -> town(areas, solved);
                areaChangesNothing(town, areas);
                carrierChangesNothing(town);
                knowChangesNothing(town, areas);
                changesNothing("solve(-1)", town, OUTSIDE, x -> x.solve(-1));
                changesNothing("solve(100001)", town, OUTSIDE, x -> x.solve(100001));
                askingChangesNothing(town, areas, solved);
            }
        }
    }

    private static void areaChangesNothing(Supplier<BalanceRounds> town, int areas) {
        changesNothing("area(-1, 0)", town, OUTSIDE, x -> x.area(-1, 0));
        changesNothing("area(1000001, 0)", town, OUTSIDE, x -> x.area(1000001, 0));
        changesNothing("area(1, -1)", town, OUTSIDE, x -> x.area(1, -1));
        changesNothing("area(1, 4)", town, OUTSIDE, x -> x.area(1, 4));
        if (areas == MOST_AREAS) {
            changesNothing("area(9, 3), full", town, ROOM, x -> x.area(9, 3));
        }
    }

    private static void carrierChangesNothing(Supplier<BalanceRounds> town) {
        changesNothing("carrier(-1, 5)", town, OUTSIDE, x -> x.carrier(-1, 5));
        changesNothing("carrier(4, 5)", town, OUTSIDE, x -> x.carrier(4, 5));
        changesNothing("carrier(0, -1)", town, OUTSIDE, x -> x.carrier(0, -1));
        changesNothing("carrier(3, 1000000001)", town, OUTSIDE, x -> x.carrier(3, 1000000001L));
    }

    private static void knowChangesNothing(Supplier<BalanceRounds> town, int areas) {
        changesNothing("know(0, 0)", town, UNKNOWN, x -> x.know(0, 0));
        changesNothing("know of the next area", town, UNKNOWN, x -> x.know(0, areas + 1));
        changesNothing("know(0, 33)", town, UNKNOWN, x -> x.know(0, 33));
        if (areas > 0) {
            changesNothing("know(-1, 1)", town, OUTSIDE, x -> x.know(-1, 1));
            changesNothing("know(4, 1)", town, OUTSIDE, x -> x.know(4, 1));
        }
    }

    private static void askingChangesNothing(Supplier<BalanceRounds> town, int areas, boolean solved) {
        changesNothing("round(0)", town, UNKNOWN, x -> x.round(0));
        changesNothing("round of the next area", town, UNKNOWN, x -> x.round(areas + 1));
        if (!solved) {
            changesNothing("changed()", town, STATE, BalanceRounds::changed);
            changesNothing("faults()", town, STATE, BalanceRounds::faults);
        }
        if (!solved && areas > 0) {
            changesNothing("round(1)", town, STATE, x -> x.round(1));
        }
    }

    private static void aCallThatThrowsChangesNothing() {
        Check.sentence("Terms", "or throws, changes nothing");
        for (int areas : new int[] {0, 1, 8, 9, MOST_AREAS}) {
            for (boolean solved : new boolean[] {false, true}) {
                Supplier<BalanceRounds> town = () -> town(areas, solved);
                for (int round : Towns.WRONG_ROUNDS) {
                    changesNothing("together(" + round + ")", town, Check.THREW_ARGUMENT,
                            x -> Check.together(x, round));
                }
            }
            changesNothing("together(0)", () -> town(areas, false), Check.THREW_STATE, x -> Check.together(x, 0));
        }
    }

    /** Some of everything: loads, ways, hours, what is known. */
    private static BalanceRounds town(int areas, boolean solved) {
        BalanceRounds x = new BalanceRounds();
        for (int area = 1; area <= areas; area++) {
            x.area(10 + area % 7, area % 3);
            if (area > 1 && area % 5 > 0) {
                x.joined(area - 1, area, false);
            }
        }
        Towns.hours(x, 60, 15, 0, 70);
        x.know(1, 2);
        x.know(3, areas);
        if (solved) {
            x.solve(areas);
        }
        return x;
    }

    /** Of two towns that are alike one hears the refused call; from there on they must answer alike. */
    private static void changesNothing(String name, Supplier<BalanceRounds> town, long refusal,
            ToLongFunction<BalanceRounds> refused) {
        BalanceRounds x = town.get();
        BalanceRounds y = town.get();
        Check.due(name, refused.applyAsLong(x), refusal);
        List<String> got = allAnswers(x);
        List<String> due = allAnswers(y);
        for (int i = 0; i < due.size(); i++) {
            Check.due(name + ", then not " + got.get(i) + " but " + due.get(i), got.get(i).equals(due.get(i)), true);
        }
    }

    /** First what is asked alone, then what is solved anew, and last what must be told to hear what was so before. */
    private static List<String> allAnswers(BalanceRounds x) {
        List<String> answers = new ArrayList<>();
        askAll(x, answers);
        for (long steps : new long[] {0, 100000}) {
            answers.add("solve: " + x.solve(steps));
            askAll(x, answers);
        }
        for (int round = 0; round <= 3; round++) {
            answers.add("carrier: " + x.carrier(round, 40 + round));
        }
        answers.add("area: " + x.area(3, 3));
        for (int area = 1; area <= MOST_AREAS; area++) {
            for (int round = 0; round <= 3; round++) {
                answers.add("know: " + x.know(round, area));
            }
        }
        answers.add("solve: " + x.solve(100000));
        askAll(x, answers);
        return answers;
    }

    private static void askAll(BalanceRounds x, List<String> answers) {
        for (int area = 1; area <= MOST_AREAS; area++) {
            answers.add("round: " + x.round(area));
        }
        for (int round = 0; round <= 3; round++) {
            answers.add("together: " + Check.together(x, round));
        }
        answers.add("changed: " + x.changed());
        answers.add("faults: " + x.faults());
        answers.add("exact: " + x.exact());
        answers.add("bound: " + x.bound());
        answers.add("tooLarge: " + x.tooLarge(0));
        answers.add("tooLarge: " + x.tooLarge(1));
    }
}
