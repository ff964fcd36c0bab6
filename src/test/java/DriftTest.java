/** Promise 34: days by a seed. What is due was found by another program, in another language. */
public final class DriftTest {
    private static final int LEAST = -2147483648;
    private static final int GREATEST = 2147483647;

    public static void main(String[] args) {
        refused();
        byOddAndEvenDays();
        windOfEachDay();
        Due.end("DriftTest");
    }

    private static void refused() {
        SorrowSpots x = Due.told("one 5;");
        Due.is("drift(7, 1, 0)", x.drift(7, 1, 0), SorrowSpots.STATE);
        Due.is("drift(7, 0, 0): the first that fits", x.drift(7, 0, 0), SorrowSpots.BAD);
        Due.is("drift(7, 61, 0)", x.drift(7, 61, 0), SorrowSpots.BAD);
        Due.is("drift(7, 1, -1)", x.drift(7, 1, -1), SorrowSpots.BAD);
        Due.is("drift(7, 1, 2)", x.drift(7, 1, 2), SorrowSpots.BAD);
        x.dab(0, 3, 0);
        Due.is("drift(7, 0, 0)", x.drift(7, 0, 0), SorrowSpots.BAD);
        Due.is("drift(7, -1, 1)", x.drift(7, -1, 1), SorrowSpots.BAD);
        Due.is("drift(7, 61, 1)", x.drift(7, 61, 1), SorrowSpots.BAD);
    }

    private static void byOddAndEvenDays() {
        // the winds told are in vain
        SorrowSpots x = Due.told("one 5;wind 0 9;wind 1 9;wind 2 9;wind 3 9;wind 4 9;wind 5 9;");
        x.dab(0, 3, 0);
        x.dab(0, 6, 0);
        // seed, days, landings and counted from day 0, and from day 1
        int[][] due = {{0, 1, 0, 9, 0, 9}, {0, 2, 0, 0, 0, 0}, {0, 5, 0, 0, 2, 9}, {0, 10, 3, 9, 4, 9},
            {0, 30, 9, 6, 7, 6}, {0, 59, 17, 6, 17, 9}, {0, 60, 18, 9, 17, 9},
            {1, 5, 2, 9, 2, 9}, {1, 10, 4, 9, 4, 6}, {1, 59, 20, 0, 20, 9}, {1, 60, 22, 9, 20, 6},
            {7, 1, 0, 6, 0, 6}, {7, 5, 1, 3, 1, 3}, {7, 30, 10, 9, 9, 3}, {7, 60, 19, 0, 19, 0},
            {-1, 5, 2, 9, 2, 9}, {-1, 30, 10, 0, 11, 6}, {-1, 60, 21, 6, 20, 0},
            {GREATEST, 30, 10, 0, 11, 6}, {GREATEST, 59, 20, 3, 20, 3},
            {LEAST, 1, 0, 9, 0, 9}, {LEAST, 10, 3, 9, 4, 9}, {LEAST, 59, 17, 6, 17, 9}};
        for (int[] d : due) {
            Due.is("drift(" + d[0] + ", " + d[1] + ", 0)", x.drift(d[0], d[1], 0), d[2]);
            Due.is("drift(" + d[0] + ", " + d[1] + ", 1)", x.drift(d[0], d[1], 1), d[3]);
        }
        Due.is("rule(2)", x.rule(2), 0);
        x.text();
        Due.tell(x, "one 5;");
        x.days(1);
        x.dab(0, 3, 0);
        x.dab(0, 6, 0);
        for (int[] d : due) {
            Due.is("from day 1: drift(" + d[0] + ", " + d[1] + ", 0)", x.drift(d[0], d[1], 0), d[4]);
            Due.is("from day 1: drift(" + d[0] + ", " + d[1] + ", 1)", x.drift(d[0], d[1], 1), d[5]);
        }
    }

    private static void windOfEachDay() {
        // at 0 on an even day, so the only landing is that of who is not blown off: seed 7 blows by 4
        SorrowSpots x = Due.told("one 0;");
        x.dab(0, 4, 0);
        Due.is("4 spots by 4", x.drift(7, 1, 1), 4);
        x.alter(0, 1, 3);
        Due.is("3 spots by 4", x.drift(7, 1, 1), 0);
        // seed 1000000: 8, 6, 8, 6, 7, 4
        x.alter(0, 1, 7);
        Due.is("7 spots by 8", x.drift(1000000, 1, 1), 0);
        x.alter(0, 1, 8);
        Due.is("8 spots by 8, 6, 8, 6, 7, 4", x.drift(1000000, 6, 1), 8);
        // in the air all along: one landing behind the 9th day, whatever the winds are
        SorrowSpots y = Due.told("one 0;red 9 0 9;");
        Due.is("drift(1000000, 8, 0)", y.drift(1000000, 8, 0), 0);
        Due.is("drift(1000000, 9, 0)", y.drift(1000000, 9, 0), 1);
        Due.is("drift(1000000, 60, 0)", y.drift(1000000, 60, 0), 1);
    }
}
