/** Promises 21 to 26: what is best. */
public final class BestTest {
    public static void main(String[] args) {
        shed();
        shedWithSitters();
        calm();
        kind();
        swap();
        need();
        needBehindDays();
        off();
        offOfSix();
        offBehindDays();
        Due.end("BestTest");
    }

    private static void shed() {
        SorrowSpots x = Due.told("one 5;one 5;red 3 0 0;red 5 0 9;");
        Due.is("shed(-1, 0, 0)", x.shed(-1, 0, 0), SorrowSpots.BAD);
        Due.is("shed(2, 0, 0)", x.shed(2, 0, 0), SorrowSpots.BAD);
        Due.is("shed(0, -1, 0)", x.shed(0, -1, 0), SorrowSpots.BAD);
        Due.is("shed(0, 61, 0)", x.shed(0, 61, 0), SorrowSpots.BAD);
        Due.is("shed(0, 0, -1)", x.shed(0, 0, -1), SorrowSpots.BAD);
        Due.is("shed(0, 0, 2)", x.shed(0, 0, 2), SorrowSpots.BAD);
        Due.is("shed(0, 2, 0): from 0 they come to 2", x.shed(0, 2, 0), 3);
        Due.is("shed(0, 2, 1)", x.shed(0, 2, 1), 0);
        Due.is("shed(0, 4, 0): all places are met", x.shed(0, 4, 0), 0);
        Due.is("shed(0, 4, 1)", x.shed(0, 4, 1), 3);
        Due.is("shed(0, 60, 0)", x.shed(0, 60, 0), 0);
        Due.is("shed(0, 60, 1)", x.shed(0, 60, 1), 8);
        x.alter(0, 1, 6);
        Due.is("shed(0, 4, 0): away from 6", x.shed(0, 4, 0), 5);
        Due.is("shed(0, 4, 1)", x.shed(0, 4, 1), 5);
        x.alter(0, 0, 3);
        Due.is("shed(0, 2, 0): the pin comes to 6", x.shed(0, 2, 0), 7);
        Due.is("shed(0, 2, 1)", x.shed(0, 2, 1), 5);
        x.alter(0, 1, 1);
        Due.is("shed(0, 8, 0)", x.shed(0, 8, 0), 0);
        Due.is("shed(0, 8, 1)", x.shed(0, 8, 1), 2);
        x.alter(1, 2, 1);
        x.lift(1, 9);
        Due.is("shed(0, 1, 0)", x.shed(0, 1, 0), 4);
        x.walk(0, 0);
        Due.is("shed(0, 2, 0)", x.shed(0, 2, 0), 7);
        SorrowSpots last = Due.told("one 0;pin 1 0 2;yellow 1 0 7;");
        Due.is("the last place alone is out of reach: shed(0, 2, 0)", last.shed(0, 2, 0), 9);
        Due.is("shed(0, 2, 1)", last.shed(0, 2, 1), 1);
    }

    private static void shedWithSitters() {
        SorrowSpots x = Due.told("one 5;wind 0 3;");
        x.dab(0, 2, 0);
        Due.is("shed(0, 0, 0)", x.shed(0, 0, 0), 0);
        Due.is("shed(0, 0, 1)", x.shed(0, 0, 1), 2);
        // an even day: by 3 to greater ones
        Due.is("shed(0, 1, 0)", x.shed(0, 1, 0), 0);
        Due.is("shed(0, 1, 1)", x.shed(0, 1, 1), 0);
        x.blow(0, 0);
        x.blow(1, 3);
        x.days(1);
        // an odd day: by 3 to lesser ones, so from 0 and 1 it is back at once
        Due.is("shed(0, 1, 0)", x.shed(0, 1, 0), 2);
        Due.is("shed(0, 1, 1)", x.shed(0, 1, 1), 0);
    }

    private static void calm() {
        SorrowSpots x = Due.told("one 5;wind 0 4;wind 1 6;");
        x.dab(0, 3, 0);
        x.dab(0, 5, 0);
        Due.is("calm(-1, 0)", x.calm(-1, 0), SorrowSpots.BAD);
        Due.is("calm(61, 0)", x.calm(61, 0), SorrowSpots.BAD);
        Due.is("calm(1, -1)", x.calm(1, -1), SorrowSpots.BAD);
        Due.is("calm(1, 2)", x.calm(1, 2), SorrowSpots.BAD);
        Due.is("calm(0, 0)", x.calm(0, 0), SorrowSpots.NONE);
        Due.is("calm(0, 1)", x.calm(0, 1), SorrowSpots.NONE);
        Due.is("calm(1, 0)", x.calm(1, 0), 0);
        Due.is("calm(1, 1)", x.calm(1, 1), 2);
        Due.is("calm(2, 0)", x.calm(2, 0), 1);
        Due.is("calm(2, 1)", x.calm(2, 1), 1);
        Due.is("nobody: calm(5, 0)", new SorrowSpots().calm(5, 0), SorrowSpots.NONE);
        // one is blown off on even days alone, the other on odd ones
        SorrowSpots y = Due.told("one 9;one 0;wind 0 3;wind 1 3;");
        y.dab(0, 1, 0);
        y.dab(0, 1, 1);
        Due.is("of several the first: calm(2, 0)", y.calm(2, 0), 0);
        Due.is("calm(2, 1)", y.calm(2, 1), 1);
        SorrowSpots z = Due.told("one 0;wind 4 9;");
        z.dab(0, 1, 0);
        Due.is("calm(5, 0)", z.calm(5, 0), 4);
        Due.is("calm(5, 1)", z.calm(5, 1), 1);
        Due.is("calm(60, 0)", z.calm(60, 0), 4);
        z.blow(4, 0);
        z.blow(5, 9);
        Due.is("calm(6, 0): back at the end on an odd day", z.calm(6, 0), SorrowSpots.NONE);
        z.walk(0, 9);
        Due.is("calm(6, 0)", z.calm(6, 0), 5);
    }

    private static void kind() {
        SorrowSpots x = Due.told("one 0;one 9;red 3 0 4;");
        Due.is("kind(-1, 0)", x.kind(-1, 0), SorrowSpots.BAD);
        Due.is("kind(1, 0)", x.kind(1, 0), SorrowSpots.BAD);
        Due.is("kind(0, -1)", x.kind(0, -1), SorrowSpots.BAD);
        Due.is("kind(0, 2)", x.kind(0, 2), SorrowSpots.BAD);
        Due.is("kind(0, 0)", x.kind(0, 0), 3);
        Due.is("kind(0, 1)", x.kind(0, 1), 2);
        SorrowSpots near = Due.told("one 0;one 9;pin 3 0 1;");
        Due.is("of several the first: kind(0, 0)", near.kind(0, 0), 0);
        Due.is("kind(0, 1)", near.kind(0, 1), 1);
        SorrowSpots next = Due.told("one 0;one 9;red 3 0 8;");
        Due.is("kind(0, 0)", next.kind(0, 0), 1);
        Due.is("kind(0, 1)", next.kind(0, 1), 1);
        SorrowSpots third = Due.told("one 0;one 0;one 9;red 3 0 8;");
        third.dab(0, 1, 0);
        third.dab(0, 1, 1);
        Due.is("kind(0, 0)", third.kind(0, 0), 2);
        Due.is("kind(0, 1)", third.kind(0, 1), 1);
        third.dab(3, 1, 2);
        Due.is("it sits: kind(3, 0)", third.kind(3, 0), 0);
        Due.is("it sits: kind(3, 1)", third.kind(3, 1), 0);
    }

    private static void swap() {
        SorrowSpots x = Due.told("one 0;one 9;red 3 0 9;red 5 1 0;");
        Due.is("swap(-1, 0)", x.swap(-1, 0), SorrowSpots.BAD);
        Due.is("swap(61, 0)", x.swap(61, 0), SorrowSpots.BAD);
        Due.is("swap(1, -1)", x.swap(1, -1), SorrowSpots.BAD);
        Due.is("swap(1, 2)", x.swap(1, 2), SorrowSpots.BAD);
        Due.is("swap(0, 0)", x.swap(0, 0), SorrowSpots.NONE);
        Due.is("swap(1, 0)", x.swap(1, 0), 1);
        Due.is("swap(1, 1)", x.swap(1, 1), 8);
        Due.is("swap(9, 0): no more than as it is", x.swap(9, 0), SorrowSpots.NONE);
        Due.is("swap(9, 1)", x.swap(9, 1), SorrowSpots.NONE);
        Due.is("one alone: swap(9, 0)", Due.told("one 4;red 1 0 9;").swap(9, 0), SorrowSpots.NONE);
        Due.is("nobody: swap(9, 0)", new SorrowSpots().swap(9, 0), SorrowSpots.NONE);
        SorrowSpots y = Due.told("one 4;one 4;one 0;one 9;red 3 1 0;red 4 2 9;red 5 3 0;");
        // 0 to 3 changes 4 with 9, 2 with 3 brings both theirs, 1 with 2 only the first
        Due.is("swap(1, 0)", y.swap(1, 0), 23);
        Due.is("swap(1, 1)", y.swap(1, 1), 9);
        SorrowSpots z = Due.told("one 4;one 4;one 0;red 3 0 0;red 3 1 0;");
        Due.is("of several the least: swap(1, 0)", z.swap(1, 0), 2);
        Due.is("swap(1, 1)", z.swap(1, 1), 3);
        z.alter(1, 1, 4);
        Due.is("swap(1, 0)", z.swap(1, 0), 12);
        Due.is("swap(1, 1)", z.swap(1, 1), 4);
        // those that sit go with them: at 9 an even wind blows nothing far
        SorrowSpots w = Due.told("one 3;one 9;wind 0 4;");
        w.dab(0, 3, 0);
        Due.is("swap(1, 0)", w.swap(1, 0), 1);
        Due.is("swap(1, 1)", w.swap(1, 1), 3);
    }

    private static void need() {
        SorrowSpots x = Due.told("one 0;one 0;one 9;");
        x.dab(0, 9, 0);
        x.dab(3, 2, 1);
        Due.is("need(-1, 0, 0)", x.need(-1, 0, 0), SorrowSpots.BAD);
        Due.is("need(2, 0, 0)", x.need(2, 0, 0), SorrowSpots.BAD);
        Due.is("need(0, -1, 0)", x.need(0, -1, 0), SorrowSpots.BAD);
        Due.is("need(0, 3, 0)", x.need(0, 3, 0), SorrowSpots.BAD);
        Due.is("need(0, 0, -1)", x.need(0, 0, -1), SorrowSpots.BAD);
        Due.is("need(0, 0, 61)", x.need(0, 0, 61), SorrowSpots.BAD);
        Due.is("need(0, 0, 0): 5 against 4", x.need(0, 0, 0), 5);
        Due.is("need(1, 1, 0): 10 against 9", x.need(1, 1, 0), 5);
        Due.is("need(0, 1, 0): 4 against 1", x.need(0, 1, 0), 1);
        Due.is("need(0, 2, 0): he is not counted", x.need(0, 2, 0), SorrowSpots.NONE);
        x.alter(1, 1, 9);
        Due.is("need(0, 0, 0): 18 are too many", x.need(0, 0, 0), SorrowSpots.NONE);
        x.dab(0, 9, 0);
        Due.is("need(0, 0, 60): 9 more are just alike", x.need(0, 0, 60), SorrowSpots.NONE);
        x.dab(1, 1, 0);
        Due.is("need(0, 0, 60)", x.need(0, 0, 60), 9);
        SorrowSpots alone = Due.told("one 0;red 4 0 9;");
        Due.is("no others: need(0, 0, 0)", alone.need(0, 0, 0), 1);
        SorrowSpots none = Due.told("one 0;one 1;red 4 0 9;");
        Due.is("all alike: need(0, 0, 0)", none.need(0, 0, 0), SorrowSpots.NONE);
    }

    private static void needBehindDays() {
        SorrowSpots x = Due.told("one 5;one 0;red 3 0 5;wind 1 6;");
        Due.is("need(0, 0, 1)", x.need(0, 0, 1), 1);
        Due.is("need(0, 0, 2): with fewer it is blown off", x.need(0, 0, 2), 6);
    }

    private static void off() {
        SorrowSpots x = Due.told("one 0;one 9;");
        x.dab(0, 4, 0);
        x.dab(3, 4, 0);
        x.dab(1, 9, 0);
        x.dab(3, 9, 1);
        Due.is("off(-1, 0, 0)", x.off(-1, 0, 0), SorrowSpots.BAD);
        Due.is("off(2, 0, 0)", x.off(2, 0, 0), SorrowSpots.BAD);
        Due.is("off(0, -1, 0)", x.off(0, -1, 0), SorrowSpots.BAD);
        Due.is("off(0, 61, 0)", x.off(0, 61, 0), SorrowSpots.BAD);
        Due.is("off(0, 0, -1)", x.off(0, 0, -1), SorrowSpots.BAD);
        Due.is("off(0, 0, 2)", x.off(0, 0, 2), SorrowSpots.BAD);
        Due.is("off(0, 0, 0)", x.off(0, 0, 0), 1);
        Due.is("off(0, 0, 1)", x.off(0, 0, 1), 9);
        Due.is("off(1, 60, 0)", x.off(1, 60, 0), 3);
        Due.is("off(1, 60, 1)", x.off(1, 60, 1), 0);
        x.alter(1, 1, 2);
        x.alter(2, 1, 8);
        Due.is("of several the first: off(0, 0, 0)", x.off(0, 0, 0), 0);
        Due.is("off(0, 0, 1)", x.off(0, 0, 1), 8);
        x.lift(3, 0);
        Due.is("he is not counted: off(1, 0, 0)", x.off(1, 0, 0), SorrowSpots.NONE);
        Due.is("he is not counted: off(1, 0, 1)", x.off(1, 0, 1), SorrowSpots.NONE);
    }

    private static void offOfSix() {
        // whoever is away, the others stay who they are
        SorrowSpots x = Due.told("one 1;one 4;one 7;one 9;pin 1 0 2;pin 2 1 5;pin 3 2 8;pin 4 3 9;red 5 2 6;red 6 3 8;");
        Due.is("ahead(3, 1)", x.ahead(3, 1), 8 + 6);
        Due.is("off(3, 1, 0)", x.off(3, 1, 0), 3);
        Due.is("off(3, 1, 1)", x.off(3, 1, 1), 6);
        Due.is("off(2, 1, 0)", x.off(2, 1, 0), 2);
        Due.is("off(2, 1, 1)", x.off(2, 1, 1), 5);
        Due.is("off(0, 1, 0)", x.off(0, 1, 0), 0);
        Due.is("off(0, 1, 1)", x.off(0, 1, 1), 0);
        SorrowSpots y = Due.told("one 3;one 6;red 9 1 3;red 2 0 7;");
        Due.is("it comes from 7 behind 4 days: off(0, 3, 0)", y.off(0, 3, 0), SorrowSpots.NONE);
        Due.is("off(0, 4, 0)", y.off(0, 4, 0), 1);
        Due.is("off(0, 4, 1)", y.off(0, 4, 1), 0);
        Due.is("off(1, 3, 0)", y.off(1, 3, 0), 0);
        // behind a day 5 by the red one, 6 by the orphan; the pin is still on its way
        SorrowSpots z = Due.told("one 0;one 9;red 2 1 9;red 5 0 1;pin 5 0 9;");
        z.dab(2, 9, 0);
        Due.is("ahead(0, 1)", z.ahead(0, 1), 11);
        Due.is("off(0, 1, 0)", z.off(0, 1, 0), 3);
        Due.is("off(0, 1, 1)", z.off(0, 1, 1), 5);
    }

    private static void offBehindDays() {
        // if the red one is away, the orphan comes to the first one instead of the second
        SorrowSpots x = Due.told("one 3;one 5;red 1 0 3;orphan 9 0 4;");
        Due.is("ahead(1, 1)", x.ahead(1, 1), 6);
        Due.is("off(1, 1, 0)", x.off(1, 1, 0), 0);
        Due.is("off(1, 1, 1)", x.off(1, 1, 1), 0);
        Due.is("off(0, 1, 0): 6 would come for 1", x.off(0, 1, 0), SorrowSpots.NONE);
        x.alter(0, 1, 7);
        Due.is("off(0, 1, 0): 6 would come for 7", x.off(0, 1, 0), 0);
        Due.is("off(0, 1, 1)", x.off(0, 1, 1), 6);
    }
}
