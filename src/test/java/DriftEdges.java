/** Promise 34 (EdgesTest). */
final class DriftEdges {
    private static final int BAD = SorrowSpots.BAD;
    private static final int STATE = SorrowSpots.STATE;
    private static final int GREATEST = Integer.MAX_VALUE;
    private static final int LEAST = Integer.MIN_VALUE;
    private static final int[] SEEDS = {0, 1, -1, 7, 12345, 1000000, GREATEST, LEAST, LEAST + 1, -12345};

    private DriftEdges() {
    }

    static void hold() {
        noBeetles();
        daysOneToSixty();
        asByWindsOfEachDay();
        seedWrapsAround();
        windsToldAreInVain();
        nothingIsChanged();
    }

    /** The bits 16 to 30 of a seed, modulo 10, found without any wrap-around. */
    private static int strong(long seed) {
        return (int) ((seed >> 16 & 0x7fff) % 10);
    }

    /** The seed that comes next, as a number of 32 bits without a sign, with nothing lost on the way. */
    private static long next(long seed) {
        return (seed * 1103515245L + 12345L) & 0xffffffffL;
    }

    private static SorrowSpots county() {
        SorrowSpots x = Due.told("one 2;one 7;wind 0 3;wind 3 9;");
        x.dab(0, 3, 0);
        x.dab(1, 5, 1);
        x.dab(2, 6, 1);
        x.dab(3, 1, 0);
        return x;
    }

    private static void noBeetles() {
        Due.sentence("34 drift(): STATE: there are no BEETLES");
        SorrowSpots x = Due.told("one 2;");
        Due.is("drift(1, 1, 0)", x.drift(1, 1, 0), STATE);
        Due.is("drift(1, 60, 1)", x.drift(1, 60, 1), STATE);
        x.dab(0, 9, 0);
        Due.is("one is enough: drift(1, 60, 1)", x.drift(1, 60, 1), 9);
    }

    private static void daysOneToSixty() {
        Due.sentence("34 drift(): n DAYS (1 to 60). BAD");
        SorrowSpots x = county();
        Due.is("drift(1, 0, 0)", x.drift(1, 0, 0), BAD);
        Due.is("drift(1, 61, 0)", x.drift(1, 61, 0), BAD);
        Due.is("drift(1, -1, 0)", x.drift(1, -1, 0), BAD);
        Due.is("drift(1, greatest, 0)", x.drift(1, GREATEST, 0), BAD);
        Due.is("drift(1, least, 0)", x.drift(1, LEAST, 0), BAD);
        Due.is("drift(1, 1, 2)", x.drift(1, 1, 2), BAD);
        Due.is("drift(1, 1, -1)", x.drift(1, 1, -1), BAD);
        // in the air all along: a red one 9 away lands behind the 9th day
        SorrowSpots y = Due.told("one 0;red 9 0 9;");
        Due.is("drift(1, 1, 0)", y.drift(1, 1, 0), 0);
        Due.is("drift(1, 8, 0)", y.drift(1, 8, 0), 0);
        Due.is("drift(1, 9, 0)", y.drift(1, 9, 0), 1);
        Due.is("drift(1, 60, 0)", y.drift(1, 60, 0), 1);
    }

    private static void asByWindsOfEachDay() {
        Due.sentence("34 drift(): how strong the WIND of that DAY is, behind each of 1 to 60 days");
        for (int seed : SEEDS) {
            SorrowSpots drifting = county();
            SorrowSpots blown = county();
            long grain = seed & 0xffffffffL;
            int landings = 0;
            for (int n = 1; n <= 60; n++) {
                grain = next(grain);
                blown.blow((n - 1) % 6, strong(grain));
                landings += blown.days(1);
                Due.is("drift(" + seed + ", " + n + ", 0)", drifting.drift(seed, n, 0), landings);
                Due.is("drift(" + seed + ", " + n + ", 1)", drifting.drift(seed, n, 1), blown.rule(4));
            }
        }
    }

    private static void seedWrapsAround() {
        Due.sentence("34 drift(): the seed becomes seed times 1103515245 and 12345, wrapping around");
        // seeds that differ by 2 to the 31st alone never differ in their bits 16 to 30
        SorrowSpots x = county();
        for (int seed : new int[] {0, 1, 7, 99999, GREATEST}) {
            for (int n : new int[] {1, 2, 30, 60}) {
                Due.is("drift by the other sign", x.drift(seed ^ LEAST, n, 0), x.drift(seed, n, 0));
                Due.is("drift by the other sign", x.drift(seed ^ LEAST, n, 1), x.drift(seed, n, 1));
            }
        }
    }

    private static void windsToldAreInVain() {
        Due.sentence("34 drift(): in place of that told");
        SorrowSpots x = county();
        int landings = x.drift(7, 60, 0);
        int counted = x.drift(7, 60, 1);
        for (int k = 0; k <= 5; k++) {
            x.blow(k, 9);
        }
        Due.is("drift(7, 60, 0)", x.drift(7, 60, 0), landings);
        Due.is("drift(7, 60, 1)", x.drift(7, 60, 1), counted);
    }

    private static void nothingIsChanged() {
        Due.sentence("34 drift(): By itself (as it would be; nothing is changed)");
        SorrowSpots x = county();
        x.drift(7, 60, 0);
        Due.is("rule(2)", x.rule(2), 0);
        Due.is("rule(3)", x.rule(3), 4);
        Due.is("wind(0)", x.wind(0), 3);
        Due.is("count(5)", x.count(5), 12);
    }
}
