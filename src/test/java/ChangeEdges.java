/** Promises 11 to 15 (EdgesTest). */
final class ChangeEdges {
    private static final int BAD = SorrowSpots.BAD;
    private static final int FULL = SorrowSpots.FULL;
    private static final int NONE = SorrowSpots.NONE;
    private static final int STATE = SorrowSpots.STATE;

    private ChangeEdges() {
    }

    static void hold() {
        alterToLeastAndMost();
        alterToTheSame();
        alterTakesNoneOfAnother();
        alteredStaysWhereItIs();
        walkToTheEnds();
        blowToTheEnds();
        dabSitsOnItsOwner();
        dabUpToSix();
        dabRefused();
        liftTellsWhoThatWas();
        liftOfWhatIsInTheAir();
    }

    private static void alterToLeastAndMost() {
        Due.sentence("11 alter(): KIND, SPOTS, OWNER (what 0 to 2) becomes v: what it was");
        SorrowSpots x = Due.told("one 1;one 2;one 3;one 4;orphan 5 1 5;");
        Due.is("alter(0, 0, 0)", x.alter(0, 0, 0), 2);
        Due.is("alter(0, 0, 3)", x.alter(0, 0, 3), 0);
        Due.is("alter(0, 1, 1)", x.alter(0, 1, 1), 5);
        Due.is("alter(0, 1, 9)", x.alter(0, 1, 9), 1);
        Due.is("alter(0, 2, 0)", x.alter(0, 2, 0), 1);
        Due.is("alter(0, 2, 3)", x.alter(0, 2, 3), 0);
        int[] due = {3, 9, 3, 5, NONE, 3, 18};
        for (int what = 0; what < due.length; what++) {
            Due.is("beetle(0, " + what + ")", x.beetle(0, what), due[what]);
        }
        Due.is("alter(0, 3, 1)", x.alter(0, 3, 1), BAD);
        Due.is("alter(0, -1, 1)", x.alter(0, -1, 1), BAD);
        Due.is("alter(1, 0, 1)", x.alter(1, 0, 1), BAD);
        Due.is("alter(-1, 0, 1)", x.alter(-1, 0, 1), BAD);
    }

    private static void alterToTheSame() {
        Due.sentence("11 alter(): to what it is");
        SorrowSpots x = Due.told("one 1;one 2;orphan 5 1 5;");
        Due.is("alter(0, 0, 2)", x.alter(0, 0, 2), 2);
        Due.is("alter(0, 1, 5)", x.alter(0, 1, 5), 5);
        Due.is("alter(0, 2, 1)", x.alter(0, 2, 1), 1);
    }

    private static void alterTakesNoneOfAnother() {
        Due.sentence("11 alter(): BAD, each by its own bounds");
        SorrowSpots x = Due.told("one 1;one 2;one 3;orphan 5 1 5;");
        Due.is("SPOTS, no KIND: alter(0, 0, 4)", x.alter(0, 0, 4), BAD);
        Due.is("a KIND, no SPOTS: alter(0, 1, 0)", x.alter(0, 1, 0), BAD);
        Due.is("a KIND, no ONE: alter(0, 2, 3)", x.alter(0, 2, 3), BAD);
        Due.is("alter(0, 0, -1)", x.alter(0, 0, -1), BAD);
        Due.is("alter(0, 1, -1)", x.alter(0, 1, -1), BAD);
        Due.is("alter(0, 1, 10)", x.alter(0, 1, 10), BAD);
        Due.is("alter(0, 2, -1)", x.alter(0, 2, -1), BAD);
        int[] due = {2, 5, 1};
        for (int what = 0; what < due.length; what++) {
            Due.is("beetle(0, " + what + ")", x.beetle(0, what), due[what]);
        }
    }

    private static void alteredStaysWhereItIs() {
        Due.sentence("11 alter(): of a BEETLE that SITS");
        SorrowSpots x = Due.told("one 1;one 2;");
        x.dab(0, 5, 0);
        x.alter(0, 2, 1);
        x.alter(0, 0, 3);
        x.alter(0, 1, 9);
        Due.is("beetle(0, 4)", x.beetle(0, 4), 0);
        Due.is("beetle(0, 3)", x.beetle(0, 3), 1);
        Due.is("one(0, 2)", x.one(0, 2), 18);
        Due.is("days(30)", x.days(30), 0);
        Due.is("beetle(0, 4)", x.beetle(0, 4), 0);
    }

    private static void walkToTheEnds() {
        Due.sentence("12 walk(): A ONE goes to a PLACE (with those that SIT on him): where he was. BAD");
        SorrowSpots x = Due.told("one 4;one 4;red 1 0 4;");
        x.dab(0, 5, 0);
        Due.is("walk(0, 4)", x.walk(0, 4), 4);
        Due.is("walk(0, 0)", x.walk(0, 0), 4);
        Due.is("walk(0, 9)", x.walk(0, 9), 0);
        Due.is("who sits: beetle(1, 3)", x.beetle(1, 3), 9);
        Due.is("who does not: beetle(0, 3)", x.beetle(0, 3), 4);
        Due.is("another: one(1, 0)", x.one(1, 0), 4);
        Due.is("walk(1, 10)", x.walk(1, 10), BAD);
        Due.is("walk(1, -1)", x.walk(1, -1), BAD);
        Due.is("walk(2, 1)", x.walk(2, 1), BAD);
        Due.is("walk(-1, 1)", x.walk(-1, 1), BAD);
        Due.is("one(1, 0)", x.one(1, 0), 4);
    }

    private static void blowToTheEnds() {
        Due.sentence("13 blow(): A WIND becomes so strong: how strong it was. BAD");
        SorrowSpots x = Due.told("wind 0 4;wind 5 7;");
        Due.is("blow(0, 4)", x.blow(0, 4), 4);
        Due.is("blow(0, 0)", x.blow(0, 0), 4);
        Due.is("blow(0, 9)", x.blow(0, 9), 0);
        Due.is("blow(5, 9)", x.blow(5, 9), 7);
        Due.is("blow(5, 10)", x.blow(5, 10), BAD);
        Due.is("blow(5, -1)", x.blow(5, -1), BAD);
        Due.is("blow(6, 1)", x.blow(6, 1), BAD);
        Due.is("blow(-1, 1)", x.blow(-1, 1), BAD);
        Due.is("count(5)", x.count(5), 18);
    }

    private static void dabSitsOnItsOwner() {
        Due.sentence("14 dab(): A BEETLE more, that SITS on its OWNER");
        SorrowSpots x = Due.told("one 4;one 7;");
        for (int kind = 0; kind <= 3; kind++) {
            Due.is("dab(" + kind + ", 9, 1)", x.dab(kind, 9, 1), kind + 1);
            int[] due = {kind, 9, 1, 7, 1};
            for (int what = 0; what < due.length; what++) {
                Due.is("beetle(" + kind + ", " + what + ")", x.beetle(kind, what), due[what]);
            }
        }
        Due.is("one(0, 2)", x.one(0, 2), 0);
        Due.is("one(1, 2)", x.one(1, 2), 9 + 5 + 6 + 18);
    }

    private static void dabUpToSix() {
        Due.sentence("14 dab(): how many there are; FULL");
        SorrowSpots x = Due.told("one 4;");
        for (int many = 1; many <= 6; many++) {
            Due.is("the " + many + "th", x.dab(0, 1, 0), many);
        }
        Due.is("the 7th", x.dab(0, 1, 0), FULL);
        Due.is("rule(1)", x.rule(1), 6);
        Due.is("count(4)", x.count(4), 6);
        x.lift(0, 0);
        Due.is("one in the air is still there", x.dab(0, 1, 0), FULL);
    }

    private static void dabRefused() {
        Due.sentence("14 dab(): BAD");
        SorrowSpots x = Due.told("one 4;one 5;");
        int[][] bad = {{-1, 1, 0}, {4, 1, 0}, {0, 0, 0}, {0, 10, 0}, {0, -1, 0}, {0, 1, -1}, {0, 1, 2}};
        for (int[] a : bad) {
            Due.is("dab, refused", x.dab(a[0], a[1], a[2]), BAD);
        }
        Due.is("rule(1)", x.rule(1), 0);
        Due.is("dab(3, 9, 1)", x.dab(3, 9, 1), 1);
        Due.is("dab(0, 1, 0)", x.dab(0, 1, 0), 2);
    }

    private static void liftTellsWhoThatWas() {
        Due.sentence("15 lift(): taken off the ONE on whom it SITS, AT a PLACE, in the air: who that was");
        SorrowSpots x = Due.told("one 4;one 5;one 6;yellow 3 1 6;");
        x.days(1);
        Due.is("its OWNER is another: lift(0, 0)", x.lift(0, 0), 2);
        Due.is("beetle(0, 3)", x.beetle(0, 3), 0);
        Due.is("beetle(0, 4)", x.beetle(0, 4), NONE);
        Due.is("one(2, 1)", x.one(2, 1), 0);
        x.dab(0, 1, 0);
        Due.is("the first: lift(1, 9)", x.lift(1, 9), 0);
        Due.is("beetle(1, 3)", x.beetle(1, 3), 9);
        x.dab(0, 1, 0);
        Due.is("at his place: lift(2, 4)", x.lift(2, 4), 0);
        Due.is("beetle(2, 4)", x.beetle(2, 4), NONE);
        Due.is("it lands again: days(1)", x.days(1), 1);
        Due.is("lift(2, 10)", x.lift(2, 10), BAD);
        Due.is("lift(2, -1)", x.lift(2, -1), BAD);
        Due.is("lift(3, 1)", x.lift(3, 1), BAD);
        Due.is("lift(-1, 1)", x.lift(-1, 1), BAD);
        Due.is("beetle(2, 4)", x.beetle(2, 4), 0);
    }

    private static void liftOfWhatIsInTheAir() {
        Due.sentence("15 lift(): STATE: it is in the air");
        SorrowSpots x = Due.told("one 4;red 3 0 4;wind 0 9;");
        Due.is("told so: lift(0, 1)", x.lift(0, 1), STATE);
        Due.is("beetle(0, 3)", x.beetle(0, 3), 4);
        x.dab(0, 1, 0);
        x.lift(1, 8);
        Due.is("lifted so: lift(1, 1)", x.lift(1, 1), STATE);
        Due.is("beetle(1, 3)", x.beetle(1, 3), 8);
        x.days(1);
        Due.is("landed: lift(0, 1)", x.lift(0, 1), 0);
        x.days(5);
        x.days(1);
        Due.is("blown off: lift(0, 1)", x.lift(0, 1), STATE);
        Due.is("beetle(0, 3)", x.beetle(0, 3), 8);
    }
}
