/** Promises 27 and 28 (EdgesTest). */
final class OddsEdges {
    private static final int BAD = SorrowSpots.BAD;

    private OddsEdges() {
    }

    static void hold() {
        byNoneOfTen();
        byAllOfTen();
        ofNoDays();
        ofSevenDays();
        ofEightDays();
        refused();
        meanOfAll();
        nothingIsChanged();
    }

    private static void luckIs(SorrowSpots x, int v, int b, int n, long above, long below) {
        Due.is("luck(" + v + ", " + b + ", " + n + ", 0)", x.luck(v, b, n, 0), above);
        Due.is("luck(" + v + ", " + b + ", " + n + ", 1)", x.luck(v, b, n, 1), below);
    }

    private static void meanIs(SorrowSpots x, int v, int p, int n, long above, long below) {
        Due.is("mean(" + v + ", " + p + ", " + n + ", 0)", x.mean(v, p, n, 0), above);
        Due.is("mean(" + v + ", " + p + ", " + n + ", 1)", x.mean(v, p, n, 1), below);
    }

    /** A red one of 3 SPOTS on the ONE at 5; all winds blow by 4, and from either side it is back behind 4 days. */
    private static SorrowSpots fourAway() {
        SorrowSpots x = Due.told("one 5;wind 0 4;wind 1 4;wind 2 4;wind 3 4;wind 4 4;wind 5 4;");
        x.dab(0, 3, 0);
        return x;
    }

    private static void byNoneOfTen() {
        Due.sentence("27, 28: still by v out of ten (0 ..): no day is still");
        SorrowSpots x = fourAway();
        for (int n = 0; n <= 8; n++) {
            luckIs(x, 0, 0, n, n % 4 == 0 ? 1 : 0, 1);
            meanIs(x, 0, 0, n, n % 4 == 0 ? 3 : 0, 1);
        }
        Due.is("luck(-1, 0, 1, 0)", x.luck(-1, 0, 1, 0), BAD);
        Due.is("mean(-1, 0, 1, 0)", x.mean(-1, 0, 1, 0), BAD);
    }

    private static void byAllOfTen() {
        Due.sentence("27, 28: still by v out of ten (.. to 10): all days are still");
        SorrowSpots x = fourAway();
        for (int n = 0; n <= 8; n++) {
            luckIs(x, 10, 0, n, 1, 1);
            meanIs(x, 10, 0, n, 3, 1);
        }
        Due.is("luck(11, 0, 1, 0)", x.luck(11, 0, 1, 0), BAD);
        Due.is("mean(11, 0, 1, 0)", x.mean(11, 0, 1, 0), BAD);
    }

    private static void ofNoDays() {
        Due.sentence("27, 28: n DAYS (0 ..): as it is, by whatever odds");
        SorrowSpots x = fourAway();
        x.dab(3, 9, 0);
        x.lift(1, 5);
        for (int v = 0; v <= 10; v++) {
            luckIs(x, v, 0, 0, 1, 1);
            luckIs(x, v, 1, 0, 0, 1);
            meanIs(x, v, 0, 0, 3, 1);
        }
        Due.is("luck(5, 0, -1, 0)", x.luck(5, 0, -1, 0), BAD);
        Due.is("mean(5, 0, -1, 0)", x.mean(5, 0, -1, 0), BAD);
    }

    // Let p be the odds that a day is still, q that it is not. It sits behind n days by s(n) = p s(n - 1) + q s(n - 4),
    // s(n) being p to the n up to 3 days: s(7) = p^7 + 4 p^3 q, s(8) = p^8 + 5 p^4 q + q^2.
    private static void ofSevenDays() {
        Due.sentence("27, 28: n DAYS: 7 of them, each by itself");
        SorrowSpots x = fourAway();
        luckIs(x, 3, 0, 7, 758187, 10000000);
        luckIs(x, 5, 0, 7, 33, 128);
        meanIs(x, 3, 0, 7, 2274561, 10000000);
        meanIs(x, 5, 0, 7, 99, 128);
    }

    private static void ofEightDays() {
        Due.sentence("27, 28: n DAYS (.. to 8): the sum by 10 to the 8th, in lowest terms");
        SorrowSpots x = fourAway();
        luckIs(x, 1, 0, 8, 81045001, 100000000);
        luckIs(x, 3, 0, 8, 51841561, 100000000);
        luckIs(x, 9, 0, 8, 76851721, 100000000);
        luckIs(x, 5, 0, 8, 105, 256);
        meanIs(x, 1, 0, 8, 243135003, 100000000);
        meanIs(x, 3, 0, 8, 155524683, 100000000);
        meanIs(x, 5, 0, 8, 315, 256);
        Due.is("luck(5, 0, 9, 0)", x.luck(5, 0, 9, 0), BAD);
        Due.is("mean(5, 0, 9, 0)", x.mean(5, 0, 9, 0), BAD);
    }

    private static void refused() {
        Due.sentence("27, 28: BAD: no such BEETLE, no such ONE, what above 1");
        SorrowSpots x = Due.told("one 5;one 5;one 5;");
        x.dab(0, 1, 0);
        x.dab(0, 1, 0);
        Due.is("luck(5, 1, 1, 0)", x.luck(5, 1, 1, 0), 1);
        Due.is("luck(5, 2, 1, 0)", x.luck(5, 2, 1, 0), BAD);
        Due.is("luck(5, -1, 1, 0)", x.luck(5, -1, 1, 0), BAD);
        Due.is("luck(5, 0, 1, 2)", x.luck(5, 0, 1, 2), BAD);
        Due.is("luck(5, 0, 1, -1)", x.luck(5, 0, 1, -1), BAD);
        Due.is("mean(5, 2, 1, 0)", x.mean(5, 2, 1, 0), 0);
        Due.is("mean(5, 3, 1, 0)", x.mean(5, 3, 1, 0), BAD);
        Due.is("mean(5, -1, 1, 0)", x.mean(5, -1, 1, 0), BAD);
        Due.is("mean(5, 0, 1, 2)", x.mean(5, 0, 1, 2), BAD);
        Due.is("mean(5, 0, 1, -1)", x.mean(5, 0, 1, -1), BAD);
    }

    private static void meanOfAll() {
        Due.sentence("28 mean(): of six pins of 9 SPOTS, none blown off");
        SorrowSpots x = Due.told("one 5;wind 0 9;wind 1 9;wind 2 9;wind 3 9;wind 4 9;wind 5 9;");
        for (int b = 0; b < 6; b++) {
            x.dab(3, 9, 0);
        }
        meanIs(x, 3, 0, 8, 108, 1);
        // one is blown off on the first day by 9 of ten
        x.alter(5, 1, 8);
        meanIs(x, 1, 0, 1, 458, 5);
    }

    private static void nothingIsChanged() {
        Due.sentence("27, 28: as it would be: nothing is changed");
        SorrowSpots x = fourAway();
        x.luck(5, 0, 8, 0);
        x.mean(5, 0, 8, 0);
        Due.is("rule(2)", x.rule(2), 0);
        Due.is("rule(3)", x.rule(3), 1);
        Due.is("count(5)", x.count(5), 24);
        Due.is("runs(60, 2)", x.runs(60, 2), 15);
    }
}
