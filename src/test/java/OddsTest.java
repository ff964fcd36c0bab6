/** Promises 27 and 28: still days by odds. */
public final class OddsTest {
    public static void main(String[] args) {
        luck();
        luckBehindTwoDays();
        luckOfEightDays();
        mean();
        meanOfSeveral();
        refused();
        Due.end("OddsTest");
    }

    private static void lucky(SorrowSpots x, int v, int b, int n, long above, long below) {
        Due.is("luck(" + v + ", " + b + ", " + n + ", 0)", x.luck(v, b, n, 0), above);
        Due.is("luck(" + v + ", " + b + ", " + n + ", 1)", x.luck(v, b, n, 1), below);
    }

    private static void meant(SorrowSpots x, int v, int p, int n, long above, long below) {
        Due.is("mean(" + v + ", " + p + ", " + n + ", 0)", x.mean(v, p, n, 0), above);
        Due.is("mean(" + v + ", " + p + ", " + n + ", 1)", x.mean(v, p, n, 1), below);
    }

    private static void luck() {
        SorrowSpots x = Due.told("one 5;red 3 0 9;wind 0 4;");
        x.dab(0, 3, 0);
        lucky(x, 3, 1, 0, 1, 1);
        lucky(x, 3, 0, 0, 0, 1);
        lucky(x, 0, 1, 1, 0, 1);
        lucky(x, 3, 1, 1, 3, 10);
        lucky(x, 4, 1, 1, 2, 5);
        lucky(x, 5, 1, 1, 1, 2);
        lucky(x, 10, 1, 1, 1, 1);
        lucky(x, 7, 0, 3, 0, 1);
        // in the air no wind is met
        lucky(x, 7, 0, 4, 1, 1);
    }

    private static void luckBehindTwoDays() {
        SorrowSpots x = Due.told("one 5;wind 0 4;wind 1 4;");
        x.dab(0, 3, 0);
        lucky(x, 3, 0, 2, 9, 100);
        lucky(x, 4, 0, 2, 4, 25);
        lucky(x, 5, 0, 2, 1, 4);
        lucky(x, 0, 0, 2, 0, 1);
        lucky(x, 10, 0, 2, 1, 1);
        lucky(x, 3, 0, 3, 9, 100);
        // what day 0 blew to 9 (by 7 of 10) is back behind 4 days
        lucky(x, 3, 0, 4, 79, 100);
        // and what day 1 blew to 1 (by 3 of 10 and 7 of 10) behind 5
        lucky(x, 3, 0, 5, 1, 1);
    }

    private static void luckOfEightDays() {
        // at 9 the even winds blow it nowhere; an odd one blows it to 0, and it is away for 9 days
        SorrowSpots y = Due.told("one 9;wind 1 9;wind 3 9;wind 5 9;");
        y.dab(0, 8, 0);
        lucky(y, 9, 0, 8, 6561, 10000);
        lucky(y, 1, 0, 8, 1, 10000);
        lucky(y, 5, 0, 8, 1, 16);
        // a pin is back on the third day: off on day 1 and 5, there again behind 4 days and 8
        SorrowSpots z = Due.told("one 9;wind 0 9;wind 1 9;wind 2 9;wind 3 9;wind 4 9;wind 5 9;");
        z.dab(3, 8, 0);
        lucky(z, 0, 0, 2, 0, 1);
        lucky(z, 0, 0, 4, 1, 1);
        lucky(z, 0, 0, 6, 0, 1);
        lucky(z, 0, 0, 8, 1, 1);
        // away behind 4 days only if day 1 is still (1 of 10) and day 3 is not (9 of 10)
        lucky(z, 1, 0, 4, 91, 100);
    }

    private static void mean() {
        SorrowSpots x = Due.told("one 5;one 5;wind 0 4;");
        x.dab(0, 3, 0);
        meant(x, 3, 0, 0, 3, 1);
        meant(x, 3, 1, 0, 0, 1);
        meant(x, 0, 0, 1, 0, 1);
        meant(x, 3, 0, 1, 9, 10);
        meant(x, 5, 0, 1, 3, 2);
        meant(x, 10, 0, 1, 3, 1);
        meant(x, 3, 1, 8, 0, 1);
    }

    private static void meanOfSeveral() {
        SorrowSpots x = Due.told("one 5;one 0;wind 0 4;wind 1 5;");
        x.dab(0, 3, 0);
        x.dab(3, 4, 0);
        x.dab(1, 9, 0);
        // behind day 0 the red one sits by 6 of 10: 1.8, and 8, and 5
        meant(x, 6, 0, 1, 74, 5);
        // behind day 1 the red one sits by 36 of 100, the pin by 6 of 10: 1.08, and 4.8, and 5
        meant(x, 6, 0, 2, 272, 25);
        meant(x, 0, 0, 2, 5, 1);
        meant(x, 10, 0, 2, 16, 1);
    }

    private static void refused() {
        SorrowSpots x = Due.told("one 5;one 5;red 3 0 9;");
        int[][] bad = {{-1, 0, 1, 0}, {11, 0, 1, 0}, {5, -1, 1, 0}, {5, 2, 1, 0}, {5, 0, -1, 0},
            {5, 0, 9, 0}, {5, 0, 1, -1}, {5, 0, 1, 2}};
        for (int[] a : bad) {
            Due.is("luck, refused", x.luck(a[0], a[1], a[2], a[3]), SorrowSpots.BAD);
            Due.is("mean, refused", x.mean(a[0], a[1], a[2], a[3]), SorrowSpots.BAD);
        }
        Due.is("luck(5, 1, 1, 0): no such beetle", x.luck(5, 1, 1, 0), SorrowSpots.BAD);
        Due.is("mean(5, 1, 1, 0)", x.mean(5, 1, 1, 0), 0);
    }
}
