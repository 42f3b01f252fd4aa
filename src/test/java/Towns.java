/** Towns that several tests begin with, and numbers that are wrong in each of them. */
final class Towns {
    static final int[] WRONG_ROUNDS = {-1, 4, 32, Integer.MIN_VALUE, Integer.MAX_VALUE};
    /** 32 and 33 would be 0 and 1 again where a number is taken for a bit of an int. */
    static final int[] NEVER_AREAS = {0, -1, -31, 31, 32, 33, 64, Integer.MIN_VALUE, Integer.MAX_VALUE};

    private Towns() {
    }

    /** An area for each load, all of them in that round today. */
    static BalanceRounds areas(int today, long... loads) {
        BalanceRounds x = new BalanceRounds();
        for (long load : loads) {
            x.area(load, today);
        }
        return x;
    }

    /** So many areas of one load, all of them in that round today. */
    static BalanceRounds alike(int count, long load, int today) {
        BalanceRounds x = new BalanceRounds();
        for (int i = 0; i < count; i++) {
            x.area(load, today);
        }
        return x;
    }

    /** Hours of the rounds 0, 1, .. */
    static void hours(BalanceRounds x, long... hours) {
        for (int round = 0; round < hours.length; round++) {
            x.carrier(round, hours[round]);
        }
    }

    static void joinAll(BalanceRounds x, int areas) {
        for (int a = 1; a <= areas; a++) {
            for (int b = a + 1; b <= areas; b++) {
                x.joined(a, b, false);
            }
        }
    }

    /** Each of these areas with the next one. */
    static void joinChain(BalanceRounds x, int... areas) {
        for (int i = 1; i < areas.length; i++) {
            x.joined(areas[i - 1], areas[i], false);
        }
    }

    /** Nine more areas, of no load, in round 3 without a fault: so many that solve(0) leaves all areas as today. */
    static void fillRound3(BalanceRounds x, int areasBefore) {
        for (int area = areasBefore + 1; area <= areasBefore + 9; area++) {
            x.area(0, 3);
            if (area > areasBefore + 1) {
                x.joined(area - 1, area, false);
            }
        }
        x.carrier(3, 1);
    }

    /**
     * Area 1 with 2, 3, 4 round it in round 0, area 5 with 6, 7, 8 round it in round 1, no other round with hours.
     * Today's greatest load is 10; it is 9, without faults, only if all eight change, and no single move helps.
     */
    static BalanceRounds twoStars() {
        BalanceRounds x = new BalanceRounds();
        for (int area = 1; area <= 8; area++) {
            x.area(area % 4 == 1 ? 10 : 0, area <= 4 ? 0 : 1);
        }
        for (int i = 1; i <= 3; i++) {
            x.joined(1, 1 + i, false);
            x.joined(5, 5 + i, false);
        }
        x.know(1, 1);
        x.know(0, 5);
        hours(x, 100, 100);
        return x;
    }
}
