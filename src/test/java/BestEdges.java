/** Promises 21 to 26 (EdgesTest). */
final class BestEdges {
    private static final int BAD = SorrowSpots.BAD;
    private static final int NONE = SorrowSpots.NONE;

    private BestEdges() {
    }

    static void hold() {
        shedOfNoDays();
        shedOfSixtyDays();
        shedAtTheEnds();
        shedOfSeveralTheFirst();
        calmOfNoDays();
        calmOfSixtyDays();
        calmEachWind();
        calmMoreThanAsItIs();
        calmOfSeveralTheFirst();
        kindOfOneThatSits();
        kindEachKind();
        kindOfSeveralTheFirst();
        swapOfFewerThanTwo();
        swapEachPair();
        swapMoreThanAsItIs();
        swapOfSeveralTheLeast();
        swapOfSixtyDays();
        needOneToNine();
        needIfThereAreNoOthers();
        needAlikeIsNotEnough();
        needOfAllOthers();
        needOfSixtyDays();
        offOfNone();
        offEachBeetle();
        offLessThanAsItIs();
        offLeavesTheOthersAsTheyAre();
        offOfSeveralTheFirst();
        offOfSixtyDays();
    }

    private static void shedIs(SorrowSpots x, int p, int n, int place, int counted) {
        Due.is("shed(" + p + ", " + n + ", 0)", x.shed(p, n, 0), place);
        Due.is("shed(" + p + ", " + n + ", 1)", x.shed(p, n, 1), counted);
    }

    private static void calmIs(SorrowSpots x, int n, int wind, int sitting) {
        Due.is("calm(" + n + ", 0)", x.calm(n, 0), wind);
        Due.is("calm(" + n + ", 1)", x.calm(n, 1), sitting);
    }

    private static void kindIs(SorrowSpots x, int b, int kind, int days) {
        Due.is("kind(" + b + ", 0)", x.kind(b, 0), kind);
        Due.is("kind(" + b + ", 1)", x.kind(b, 1), days);
    }

    private static void swapIs(SorrowSpots x, int n, int two, int counted) {
        Due.is("swap(" + n + ", 0)", x.swap(n, 0), two);
        Due.is("swap(" + n + ", 1)", x.swap(n, 1), counted);
    }

    private static void offIs(SorrowSpots x, int p, int n, int b, int counted) {
        Due.is("off(" + p + ", " + n + ", 0)", x.off(p, n, 0), b);
        Due.is("off(" + p + ", " + n + ", 1)", x.off(p, n, 1), counted);
    }

    private static void shedOfNoDays() {
        Due.sentence("21 shed(): behind n DAYS (0 ..): now, those that SIT on him go with him");
        SorrowSpots x = Due.told("one 3;red 9 0 0;");
        shedIs(x, 0, 0, 0, 0);
        x.dab(0, 4, 0);
        shedIs(x, 0, 0, 0, 4);
        Due.is("one(0, 0)", x.one(0, 0), 3);
        Due.is("shed(0, -1, 0)", x.shed(0, -1, 0), BAD);
        Due.is("shed(1, 0, 0)", x.shed(1, 0, 0), BAD);
        Due.is("shed(0, 0, 2)", x.shed(0, 0, 2), BAD);
    }

    private static void shedOfSixtyDays() {
        Due.sentence("21 shed(): behind n DAYS (.. to 60)");
        SorrowSpots x = EdgesTest.eachSixth();
        // wherever he stands it is 6 away at most: there again behind 60 days, at 0 to 3 not yet behind 59
        shedIs(x, 0, 60, 0, 5);
        shedIs(x, 0, 59, 0, 0);
        Due.is("shed(0, 61, 0)", x.shed(0, 61, 0), BAD);
        Due.is("shed(0, 61, 1)", x.shed(0, 61, 1), BAD);
    }

    private static void shedAtTheEnds() {
        Due.sentence("21 shed(): The PLACE (0 to 9)");
        // behind two days a pin comes to all within 6
        SorrowSpots high = Due.told("one 5;pin 4 0 2;");
        shedIs(high, 0, 2, 9, 0);
        SorrowSpots low = Due.told("one 5;pin 4 0 7;");
        shedIs(low, 0, 2, 0, 0);
        SorrowSpots both = Due.told("one 5;pin 4 0 2;pin 3 0 7;");
        shedIs(both, 0, 2, 9, 6);
        both.alter(1, 1, 5);
        shedIs(both, 0, 2, 0, 8);
        SorrowSpots all = Due.told("one 5;pin 4 0 3;");
        shedIs(all, 0, 2, 0, 8);
    }

    private static void shedOfSeveralTheFirst() {
        Due.sentence("21 shed(): COUNTED least, of several the first");
        SorrowSpots x = Due.told("one 5;red 4 0 0;");
        shedIs(x, 0, 1, 2, 0);
        shedIs(x, 0, 2, 3, 0);
        shedIs(x, 0, 8, 9, 0);
        shedIs(x, 0, 9, 0, 4);
        // where he stands does not come first
        shedIs(Due.told("one 5;"), 0, 60, 0, 0);
    }

    private static void calmOfNoDays() {
        Due.sentence("22 calm(): behind n DAYS (0 ..): no WIND has blown, NONE");
        SorrowSpots x = Due.told("one 5;red 1 0 5;wind 0 9;");
        x.dab(0, 1, 0);
        calmIs(x, 0, NONE, NONE);
        calmIs(x, 1, 0, 2);
        calmIs(new SorrowSpots(), 60, NONE, NONE);
        Due.is("calm(-1, 0)", x.calm(-1, 0), BAD);
        Due.is("calm(0, 2)", x.calm(0, 2), BAD);
        Due.is("calm(0, -1)", x.calm(0, -1), BAD);
        Due.is("wind(0)", x.wind(0), 9);
    }

    private static void calmOfSixtyDays() {
        Due.sentence("22 calm(): behind n DAYS (.. to 60)");
        SorrowSpots x = EdgesTest.notEachSixth();
        calmIs(x, 59, NONE, NONE);
        calmIs(x, 60, 5, 1);
        Due.is("calm(61, 0)", x.calm(61, 0), BAD);
        SorrowSpots y = EdgesTest.eachSixth();
        calmIs(y, 59, 0, 1);
        calmIs(y, 60, NONE, NONE);
    }

    private static void calmEachWind() {
        Due.sentence("22 calm(): The WIND (0 to 5) that had better be still");
        for (int k = 0; k <= 5; k++) {
            SorrowSpots x = Due.told("one 5;wind " + k + " 4;");
            x.dab(0, 3, 0);
            calmIs(x, k, NONE, NONE);
            calmIs(x, k + 1, k, 1);
        }
    }

    private static void calmMoreThanAsItIs() {
        Due.sentence("22 calm(): most SIT, more than as it is; NONE: none");
        SorrowSpots x = Due.told("one 5;wind 0 9;wind 1 9;");
        x.dab(0, 9, 0);
        calmIs(x, 1, NONE, NONE);
        x.dab(0, 1, 0);
        calmIs(x, 1, 0, 2);
        // were it still on day 0, it would be blown off on day 1: no more than as it is
        calmIs(x, 2, NONE, NONE);
    }

    private static void calmOfSeveralTheFirst() {
        Due.sentence("22 calm(): of several the first");
        // the first is blown off on even days alone (at 0), the second on odd ones (at 9)
        SorrowSpots x = Due.told("one 0;one 9;wind 2 9;wind 3 9;");
        x.dab(0, 1, 0);
        x.dab(0, 1, 1);
        calmIs(x, 3, 2, 2);
        calmIs(x, 4, 2, 1);
        x.dab(0, 1, 1);
        calmIs(x, 4, 3, 2);
    }

    private static void kindOfOneThatSits() {
        Due.sentence("23 kind(): it SITS now: the first KIND, behind 0");
        SorrowSpots x = Due.told("one 0;one 9;wind 0 9;");
        x.dab(3, 1, 1);
        kindIs(x, 0, 0, 0);
        Due.is("beetle(0, 0)", x.beetle(0, 0), 3);
        Due.is("kind(1, 0)", x.kind(1, 0), BAD);
        Due.is("kind(-1, 0)", x.kind(-1, 0), BAD);
        Due.is("kind(0, 2)", x.kind(0, 2), BAD);
        Due.is("kind(0, -1)", x.kind(0, -1), BAD);
    }

    private static void kindEachKind() {
        Due.sentence("23 kind(): The KIND (0 to 3) by which a BEETLE SITS soonest, behind how many");
        SorrowSpots x = Due.told("one 5;one 0;one 9;red 1 0 5;");
        x.dab(0, 1, 0);
        x.dab(0, 1, 1);
        kindIs(x, 0, 0, 1);
        SorrowSpots yellow = Due.told("one 5;one 0;one 9;red 1 0 1;");
        kindIs(yellow, 0, 1, 1);
        SorrowSpots orphan = Due.told("one 5;one 0;one 9;red 1 0 8;");
        orphan.dab(0, 1, 0);
        orphan.dab(0, 1, 1);
        orphan.walk(0, 0);
        kindIs(orphan, 0, 2, 1);
        SorrowSpots pin = Due.told("one 9;red 1 0 0;");
        kindIs(pin, 0, 3, 3);
    }

    private static void kindOfSeveralTheFirst() {
        Due.sentence("23 kind(): of several the first");
        SorrowSpots x = Due.told("one 5;pin 1 0 4;");
        kindIs(x, 0, 0, 1);
        SorrowSpots y = Due.told("one 5;pin 1 0 3;");
        kindIs(y, 0, 1, 1);
        SorrowSpots z = Due.told("one 5;pin 1 0 1;");
        // a yellow one and a pin both need two days
        kindIs(z, 0, 1, 2);
        SorrowSpots w = Due.told("one 5;one 9;one 9;pin 1 1 8;");
        w.dab(0, 1, 0);
        w.walk(1, 0);
        w.dab(0, 1, 1);
        // yellow and orphan seek the third alike
        kindIs(w, 0, 1, 1);
    }

    private static void swapOfFewerThanTwo() {
        Due.sentence("24 swap(): NONE: by none, as if there are none or one alone");
        swapIs(new SorrowSpots(), 0, NONE, NONE);
        swapIs(new SorrowSpots(), 60, NONE, NONE);
        SorrowSpots x = Due.told("one 4;red 1 0 9;");
        swapIs(x, 60, NONE, NONE);
        Due.is("swap(61, 0)", x.swap(61, 0), BAD);
        Due.is("swap(-1, 0)", x.swap(-1, 0), BAD);
        Due.is("swap(0, 2)", x.swap(0, 2), BAD);
        Due.is("swap(0, -1)", x.swap(0, -1), BAD);
    }

    private static void swapEachPair() {
        Due.sentence("24 swap(): 10 times the lesser and the greater");
        for (int p = 0; p < 4; p++) {
            for (int q = p + 1; q < 4; q++) {
                // all stand at 0 but q, at 9, where a red one waits for p
                StringBuilder text = new StringBuilder();
                for (int i = 0; i < 4; i++) {
                    text.append(i == q ? "one 9;" : "one 0;");
                }
                SorrowSpots x = Due.told(text + "red 6 " + p + " 9;");
                swapIs(x, 0, NONE, NONE);
                swapIs(x, 1, 10 * p + q, 6);
                Due.is("one(" + p + ", 0)", x.one(p, 0), 0);
                // if it waits for q at 0, each of the others may change with him
                SorrowSpots y = Due.told(text + "red 6 " + q + " 0;");
                swapIs(y, 1, q, 6);
            }
        }
    }

    private static void swapMoreThanAsItIs() {
        Due.sentence("24 swap(): COUNTED of all is most, more than as it is");
        SorrowSpots x = Due.told("one 0;one 9;red 6 0 9;red 6 0 0;");
        // 6 either way
        swapIs(x, 1, NONE, NONE);
        x.alter(0, 1, 7);
        swapIs(x, 1, 1, 7);
        x.alter(0, 1, 5);
        swapIs(x, 1, NONE, NONE);
    }

    private static void swapOfSeveralTheLeast() {
        Due.sentence("24 swap(): of several the least");
        SorrowSpots x = Due.told("one 0;one 9;one 9;one 9;red 6 0 9;");
        swapIs(x, 1, 1, 6);
        SorrowSpots y = Due.told("one 0;one 0;one 0;one 9;red 6 1 9;red 6 2 9;");
        swapIs(y, 1, 13, 6);
        y.alter(1, 1, 7);
        swapIs(y, 1, 23, 7);
    }

    private static void swapOfSixtyDays() {
        Due.sentence("24 swap(): now (with those that SIT on them), behind n DAYS (0 to 60)");
        SorrowSpots x = EdgesTest.notEachSixth();
        // at 0 the odd wind blows it nowhere
        swapIs(x, 60, 1, 5);
        swapIs(x, 59, NONE, NONE);
        swapIs(x, 0, NONE, NONE);
        Due.is("swap(61, 1)", x.swap(61, 1), BAD);
    }

    private static void needOneToNine() {
        Due.sentence("25 need(): The least SPOTS (1 to 9); NONE: by none");
        SorrowSpots x = Due.told("one 0;one 0;");
        x.dab(0, 5, 0);
        Due.is("against 0: need(0, 0, 0)", x.need(0, 0, 0), 1);
        x.dab(0, 1, 1);
        for (int against = 1; against <= 8; against++) {
            x.alter(1, 1, against);
            Due.is("against " + against, x.need(0, 0, 0), against + 1);
        }
        x.alter(1, 1, 9);
        Due.is("10 would be needed: need(0, 0, 0)", x.need(0, 0, 0), NONE);
        Due.is("beetle(0, 1)", x.beetle(0, 1), 5);
    }

    private static void needIfThereAreNoOthers() {
        Due.sentence("25 need(): by all others (also if there are no others: 1)");
        SorrowSpots x = Due.told("one 0;red 9 0 9;");
        Due.is("need(0, 0, 0)", x.need(0, 0, 0), 1);
        Due.is("need(0, 0, 60)", x.need(0, 0, 60), 1);
        Due.is("need(0, 0, 61)", x.need(0, 0, 61), BAD);
        Due.is("need(1, 0, 0)", x.need(1, 0, 0), BAD);
        Due.is("need(0, 1, 0)", x.need(0, 1, 0), BAD);
        Due.is("need(0, 0, -1)", x.need(0, 0, -1), BAD);
    }

    private static void needAlikeIsNotEnough() {
        Due.sentence("25 need(): made way for (if both are COUNTED alike, nobody makes way)");
        SorrowSpots x = Due.told("one 0;one 0;red 9 0 9;");
        Due.is("both 0: need(0, 0, 0)", x.need(0, 0, 0), NONE);
        x.dab(0, 4, 0);
        x.dab(0, 4, 1);
        Due.is("both 4, by another: need(0, 0, 0)", x.need(0, 0, 0), NONE);
        Due.is("by the one itself: need(1, 0, 0)", x.need(1, 0, 0), 5);
        Due.is("less on the other: need(2, 0, 0)", x.need(2, 0, 0), 1);
        x.alter(1, 1, 1);
        Due.is("1 against 1 at least: need(2, 0, 0)", x.need(2, 0, 0), NONE);
    }

    private static void needOfAllOthers() {
        Due.sentence("25 need(): made way for by all others, be they ahead of him or behind");
        SorrowSpots x = Due.told("one 0;one 0;one 0;one 0;");
        x.dab(0, 3, 0);
        x.dab(0, 1, 1);
        x.dab(0, 6, 2);
        x.dab(0, 4, 3);
        Due.is("need(1, 1, 0)", x.need(1, 1, 0), 7);
        x.alter(2, 1, 2);
        Due.is("the last is most: need(1, 1, 0)", x.need(1, 1, 0), 5);
        x.alter(0, 1, 8);
        Due.is("the first is most: need(1, 1, 0)", x.need(1, 1, 0), 9);
        x.alter(0, 1, 9);
        Due.is("need(1, 1, 0)", x.need(1, 1, 0), NONE);
    }

    private static void needOfSixtyDays() {
        Due.sentence("25 need(): behind n DAYS (0 to 60)");
        SorrowSpots x = EdgesTest.notEachSixth();
        Due.is("need(0, 0, 0)", x.need(0, 0, 0), 1);
        Due.is("need(0, 0, 59)", x.need(0, 0, 59), 1);
        Due.is("6 SPOTS are not blown off: need(0, 0, 60)", x.need(0, 0, 60), 6);
        Due.is("need(0, 0, 61)", x.need(0, 0, 61), BAD);
    }

    private static void offOfNone() {
        Due.sentence("26 off(): NONE: none, as with no BEETLES");
        SorrowSpots x = Due.told("one 0;");
        offIs(x, 0, 0, NONE, NONE);
        offIs(x, 0, 60, NONE, NONE);
        Due.is("off(0, 61, 0)", x.off(0, 61, 0), BAD);
        Due.is("off(0, -1, 0)", x.off(0, -1, 0), BAD);
        Due.is("off(1, 0, 0)", x.off(1, 0, 0), BAD);
        Due.is("off(-1, 0, 0)", x.off(-1, 0, 0), BAD);
        Due.is("off(0, 0, 2)", x.off(0, 0, 2), BAD);
        Due.is("off(0, 0, -1)", x.off(0, 0, -1), BAD);
        x.dab(0, 4, 0);
        offIs(x, 0, 0, 0, 0);
        Due.is("rule(1)", x.rule(1), 1);
    }

    private static void offEachBeetle() {
        Due.sentence("26 off(): The BEETLE (each of six) that is to be away");
        for (int most = 0; most < 6; most++) {
            SorrowSpots x = Due.told("one 0;one 0;");
            for (int b = 0; b < 6; b++) {
                x.dab(0, b == most ? 3 : 2, 0);
            }
            offIs(x, 0, 0, most, 10);
            offIs(x, 0, 60, most, 10);
            offIs(x, 1, 60, NONE, NONE);
            Due.is("count(4)", x.count(4), 13);
        }
    }

    private static void offLessThanAsItIs() {
        Due.sentence("26 off(): COUNTED least, less than as it is");
        // without the red one the orphan would come to the first, and be counted 3 as well
        SorrowSpots x = Due.told("one 4;one 6;orphan 3 0 5;");
        x.dab(0, 3, 0);
        Due.is("ahead(0, 1)", x.ahead(0, 1), 3);
        offIs(x, 0, 1, NONE, NONE);
        x.alter(1, 1, 4);
        offIs(x, 0, 1, 1, 3);
        x.alter(1, 1, 2);
        offIs(x, 0, 1, NONE, NONE);
        offIs(x, 0, 0, 1, 0);
        // as it is behind them, not now: now he is not COUNTED yet
        SorrowSpots y = Due.told("one 4;red 3 0 5;");
        offIs(y, 0, 0, NONE, NONE);
        offIs(y, 0, 1, 0, 0);
    }

    private static void offLeavesTheOthersAsTheyAre() {
        Due.sentence("26 off(): the others go on as they are, KIND, SPOTS, OWNER, where they are");
        // the red one, the yellow one and the pin land on the first day; the orphan is still on its way to the third
        SorrowSpots x = Due.told("one 1;one 4;one 6;one 9;red 9 0 2;yellow 9 0 3;orphan 9 0 1;pin 9 3 6;");
        x.dab(0, 2, 1);
        x.dab(0, 1, 3);
        int[] counted = {9, 7, 0, 19};
        for (int p = 0; p < 4; p++) {
            Due.is("ahead(" + p + ", 1)", x.ahead(p, 1), counted[p]);
        }
        // without the red one the orphan lands on the first instead
        offIs(x, 0, 1, 0, 6);
        offIs(x, 1, 1, 1, 2);
        offIs(x, 2, 1, NONE, NONE);
        offIs(x, 3, 1, 3, 1);
    }

    private static void offOfSeveralTheFirst() {
        Due.sentence("26 off(): of several the first");
        SorrowSpots x = Due.told("one 4;one 6;");
        x.dab(0, 9, 1);
        x.dab(0, 1, 0);
        x.dab(0, 2, 0);
        x.dab(3, 1, 0);
        x.dab(1, 4, 0);
        // three weigh 2
        offIs(x, 0, 0, 2, 5);
        x.lift(2, 9);
        offIs(x, 0, 0, 3, 3);
    }

    private static void offOfSixtyDays() {
        Due.sentence("26 off(): (from now on) behind n DAYS (0 to 60)");
        SorrowSpots x = EdgesTest.eachSixth();
        x.dab(0, 6, 0);
        // 5 and 6 behind 60 days; behind 59 the first is in the air
        offIs(x, 0, 60, 1, 5);
        offIs(x, 0, 59, 1, 0);
        x.alter(0, 1, 1);
        x.alter(1, 0, 2);
        // 1 and 4 (an orphan of 6) behind 60 days
        offIs(x, 0, 60, 1, 1);
        Due.is("off(0, 61, 1)", x.off(0, 61, 1), BAD);
    }
}
