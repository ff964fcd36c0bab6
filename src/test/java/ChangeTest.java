/** Promises 11 to 15: what is changed. */
public final class ChangeTest {
    public static void main(String[] args) {
        alter();
        alteredOnesStaySitting();
        walk();
        blow();
        dab();
        lift();
        Due.end("ChangeTest");
    }

    private static void alter() {
        SorrowSpots x = Due.told("one 1;one 2;red 4 0 5;");
        Due.is("alter(0, 0, 3)", x.alter(0, 0, 3), 0);
        Due.is("alter(0, 0, 0)", x.alter(0, 0, 0), 3);
        Due.is("alter(0, 0, 2)", x.alter(0, 0, 2), 0);
        Due.is("alter(0, 1, 9)", x.alter(0, 1, 9), 4);
        Due.is("alter(0, 1, 1)", x.alter(0, 1, 1), 9);
        Due.is("alter(0, 2, 1)", x.alter(0, 2, 1), 0);
        Due.is("alter(0, 2, 0)", x.alter(0, 2, 0), 1);
        Due.is("alter(-1, 0, 0)", x.alter(-1, 0, 0), SorrowSpots.BAD);
        Due.is("alter(1, 0, 0)", x.alter(1, 0, 0), SorrowSpots.BAD);
        Due.is("alter(0, -1, 1)", x.alter(0, -1, 1), SorrowSpots.BAD);
        Due.is("alter(0, 3, 1)", x.alter(0, 3, 1), SorrowSpots.BAD);
        Due.is("alter(0, 0, -1)", x.alter(0, 0, -1), SorrowSpots.BAD);
        Due.is("alter(0, 0, 4)", x.alter(0, 0, 4), SorrowSpots.BAD);
        Due.is("alter(0, 1, 0)", x.alter(0, 1, 0), SorrowSpots.BAD);
        Due.is("alter(0, 1, 10)", x.alter(0, 1, 10), SorrowSpots.BAD);
        Due.is("alter(0, 2, -1)", x.alter(0, 2, -1), SorrowSpots.BAD);
        Due.is("alter(0, 2, 2): no such one", x.alter(0, 2, 2), SorrowSpots.BAD);
        int[] due = {2, 1, 0, 5};
        for (int what = 0; what < due.length; what++) {
            Due.is("beetle(0, " + what + ")", x.beetle(0, what), due[what]);
        }
    }

    private static void alteredOnesStaySitting() {
        SorrowSpots x = Due.told("one 1;one 2;");
        x.dab(0, 4, 0);
        x.alter(0, 2, 1);
        x.alter(0, 0, 1);
        Due.is("beetle(0, 4)", x.beetle(0, 4), 0);
        x.days(5);
        Due.is("beetle(0, 4) behind days", x.beetle(0, 4), 0);
        Due.is("one(0, 2)", x.one(0, 2), 2);
    }

    private static void walk() {
        SorrowSpots x = Due.told("one 1;one 2;");
        x.dab(0, 4, 0);
        Due.is("walk(0, 9)", x.walk(0, 9), 1);
        Due.is("walk(0, 0)", x.walk(0, 0), 9);
        Due.is("walk(0, 7)", x.walk(0, 7), 0);
        Due.is("who sits on him goes with him", x.beetle(0, 3), 7);
        Due.is("one(1, 0)", x.one(1, 0), 2);
        Due.is("walk(-1, 0)", x.walk(-1, 0), SorrowSpots.BAD);
        Due.is("walk(2, 0)", x.walk(2, 0), SorrowSpots.BAD);
        Due.is("walk(0, -1)", x.walk(0, -1), SorrowSpots.BAD);
        Due.is("walk(0, 10)", x.walk(0, 10), SorrowSpots.BAD);
        Due.is("one(0, 0)", x.one(0, 0), 7);
    }

    private static void blow() {
        SorrowSpots x = new SorrowSpots();
        Due.is("blow(0, 9)", x.blow(0, 9), 0);
        Due.is("blow(0, 0)", x.blow(0, 0), 9);
        Due.is("blow(5, 3)", x.blow(5, 3), 0);
        Due.is("blow(-1, 3)", x.blow(-1, 3), SorrowSpots.BAD);
        Due.is("blow(6, 3)", x.blow(6, 3), SorrowSpots.BAD);
        Due.is("blow(5, -1)", x.blow(5, -1), SorrowSpots.BAD);
        Due.is("blow(5, 10)", x.blow(5, 10), SorrowSpots.BAD);
        Due.is("wind(0)", x.wind(0), 0);
        Due.is("wind(5)", x.wind(5), 3);
    }

    private static void dab() {
        SorrowSpots x = Due.told("one 1;one 2;");
        Due.is("dab(-1, 1, 0)", x.dab(-1, 1, 0), SorrowSpots.BAD);
        Due.is("dab(4, 1, 0)", x.dab(4, 1, 0), SorrowSpots.BAD);
        Due.is("dab(0, 0, 0)", x.dab(0, 0, 0), SorrowSpots.BAD);
        Due.is("dab(0, 10, 0)", x.dab(0, 10, 0), SorrowSpots.BAD);
        Due.is("dab(0, 1, -1)", x.dab(0, 1, -1), SorrowSpots.BAD);
        Due.is("dab(0, 1, 2)", x.dab(0, 1, 2), SorrowSpots.BAD);
        Due.is("rule(1)", x.rule(1), 0);
        Due.is("dab(0, 1, 0)", x.dab(0, 1, 0), 1);
        Due.is("dab(1, 9, 0)", x.dab(1, 9, 0), 2);
        // whatever he seeks, he sits on his owner
        Due.is("beetle(1, 4)", x.beetle(1, 4), 0);
        Due.is("beetle(1, 3)", x.beetle(1, 3), 1);
        Due.is("dab(2, 1, 1)", x.dab(2, 1, 1), 3);
        Due.is("beetle(2, 4)", x.beetle(2, 4), 1);
        Due.is("dab(3, 1, 1)", x.dab(3, 1, 1), 4);
        Due.is("dab(0, 2, 0)", x.dab(0, 2, 0), 5);
        Due.is("dab(0, 3, 0)", x.dab(0, 3, 0), 6);
        Due.is("dab(0, 3, 0)", x.dab(0, 3, 0), SorrowSpots.FULL);
        Due.is("dab(0, 3, 2): the first that fits", x.dab(0, 3, 2), SorrowSpots.BAD);
        Due.is("rule(1)", x.rule(1), 6);
        Due.is("dab with nobody", new SorrowSpots().dab(0, 1, 0), SorrowSpots.BAD);
    }

    private static void lift() {
        SorrowSpots x = Due.told("one 1;one 2;red 1 0 5;");
        x.dab(1, 4, 1);
        Due.is("lift(0, 3): in the air", x.lift(0, 3), SorrowSpots.STATE);
        Due.is("lift(0, 10)", x.lift(0, 10), SorrowSpots.BAD);
        Due.is("lift(-1, 3)", x.lift(-1, 3), SorrowSpots.BAD);
        Due.is("lift(2, 3)", x.lift(2, 3), SorrowSpots.BAD);
        Due.is("lift(1, -1)", x.lift(1, -1), SorrowSpots.BAD);
        Due.is("lift(1, 10)", x.lift(1, 10), SorrowSpots.BAD);
        Due.is("beetle(0, 3)", x.beetle(0, 3), 5);
        Due.is("lift(1, 9)", x.lift(1, 9), 1);
        Due.is("beetle(1, 3)", x.beetle(1, 3), 9);
        Due.is("beetle(1, 4)", x.beetle(1, 4), SorrowSpots.NONE);
        Due.is("one(1, 2)", x.one(1, 2), 0);
        Due.is("lift(1, 0)", x.lift(1, 0), SorrowSpots.STATE);
    }
}
