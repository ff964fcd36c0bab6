/** Promises 16 to 20 (EdgesTest). */
final class DayEdges {
    private static final int BAD = SorrowSpots.BAD;
    private static final int FULL = SorrowSpots.FULL;
    private static final int NONE = SorrowSpots.NONE;
    // who SITS first behind 60 days, and behind 61, was looked for by running such counties day by day
    private static final String HOME_60 = "one 2;one 9;one 0;orphan 2 2 5;red 2 1 0;yellow 6 2 6;orphan 3 0 4;"
            + "wind 0 6;wind 1 4;wind 2 6;wind 3 3;wind 4 8;";
    private static final String HOME_61 = "one 0;one 8;orphan 3 0 3;orphan 3 0 6;orphan 5 0 4;orphan 3 1 7;"
            + "wind 1 5;wind 2 5;wind 3 4;wind 4 6;wind 5 5;";
    private static final String ALL_60 = "one 1;one 8;one 6;orphan 1 2 9;orphan 3 2 6;orphan 4 0 5;"
            + "wind 0 7;wind 1 9;wind 2 9;wind 3 4;wind 4 2;wind 5 3;";
    private static final String ALL_61 = "one 7;one 6;one 1;orphan 6 0 4;orphan 4 1 1;orphan 3 2 0;orphan 5 1 0;"
            + "wind 1 6;wind 2 6;wind 3 8;wind 4 4;wind 5 3;";

    private DayEdges() {
    }

    static void hold() {
        noDays();
        thirtyDays();
        landingsOfAll();
        daysBelow1000();
        runsOfNoDays();
        runsOfSixtyDays();
        runsFlights();
        runsAllSitFirst();
        runsAllSitOnTheLastDay();
        runsAllOfNone();
        aheadOfNoneAndSixty();
        whereOfNoneAndSixty();
        whereInTheAir();
        homeAtOnce();
        homeBehindSixty();
        homeNever();
    }

    private static void noDays() {
        Due.sentence("16 days(): n DAYS (0 ..): 0 of them");
        SorrowSpots x = Due.told("one 3;red 1 0 3;wind 0 9;");
        x.dab(0, 1, 0);
        Due.is("days(0)", x.days(0), 0);
        Due.is("rule(2)", x.rule(2), 0);
        Due.is("beetle(0, 4)", x.beetle(0, 4), NONE);
        Due.is("beetle(1, 4)", x.beetle(1, 4), 0);
        Due.is("days(-1)", x.days(-1), BAD);
        Due.is("days(least)", x.days(Integer.MIN_VALUE), BAD);
        Due.is("rule(2)", x.rule(2), 0);
    }

    private static void thirtyDays() {
        Due.sentence("16 days(): n DAYS (.. to 30): how many LANDINGS, that of the 30th day too");
        SorrowSpots x = EdgesTest.eachSixth();
        Due.is("days(31)", x.days(31), BAD);
        Due.is("days(greatest)", x.days(Integer.MAX_VALUE), BAD);
        Due.is("days(30)", x.days(30), 5);
        Due.is("rule(2)", x.rule(2), 30);
        SorrowSpots y = EdgesTest.eachSixth();
        Due.is("days(29)", y.days(29), 4);
        Due.is("of this call alone: days(1)", y.days(1), 1);
        Due.is("days(5)", y.days(5), 0);
    }

    private static void landingsOfAll() {
        Due.sentence("16 days(): how many LANDINGS, of all BEETLES");
        SorrowSpots x = Due.told("one 3;one 9;wind 0 9;wind 2 9;");
        for (int b = 0; b < 6; b++) {
            x.dab(3, 1, 1);
        }
        // at 9 an even wind blows them nowhere: each is back on the same day
        Due.is("days(1)", x.days(1), 6);
        Due.is("days(1) of no wind", x.days(1), 0);
        Due.is("days(5)", x.days(5), 12);
    }

    private static void daysBelow1000() {
        Due.sentence("16 days(): FULL: DAY would be 1000 or more");
        SorrowSpots x = DayTerms.onDay(969);
        Due.is("to 999: days(30)", x.days(30), 0);
        Due.is("rule(2)", x.rule(2), 999);
        Due.is("to 1000: days(1)", x.days(1), FULL);
        Due.is("days(30)", x.days(30), FULL);
        Due.is("days(0)", x.days(0), 0);
        Due.is("rule(2)", x.rule(2), 999);
        SorrowSpots y = DayTerms.onDay(970);
        y.blow(4, 9);
        Due.is("to 1000: days(30)", y.days(30), FULL);
        Due.is("nothing went on: rule(2)", y.rule(2), 970);
        Due.is("nothing went on: rule(3)", y.rule(3), 1);
        Due.is("to 999: days(29)", y.days(29) > 0 ? 1 : 0, 1);
        Due.is("rule(2)", y.rule(2), 999);
        Due.is("back to day 0 by a text", Due.tell(y, "one 1;"), 1);
        Due.is("days(30)", y.days(30), 0);
    }

    private static void runsOfNoDays() {
        Due.sentence("17 runs(): n of them (0 ..): as it is");
        SorrowSpots x = Due.told("one 3;red 1 0 3;wind 0 9;");
        x.dab(0, 4, 0);
        Due.is("runs(0, 0)", x.runs(0, 0), 1);
        Due.is("runs(0, 1)", x.runs(0, 1), 4);
        Due.is("runs(0, 2)", x.runs(0, 2), 0);
        Due.is("runs(0, 3)", x.runs(0, 3), NONE);
        Due.is("runs(-1, 0)", x.runs(-1, 0), BAD);
        Due.is("runs(0, 4)", x.runs(0, 4), BAD);
        Due.is("runs(0, -1)", x.runs(0, -1), BAD);
    }

    private static void runsOfSixtyDays() {
        Due.sentence("17 runs(): n of them (.. to 60): 0 how many SIT then, 1 COUNTED of all");
        SorrowSpots x = EdgesTest.eachSixth();
        Due.is("runs(59, 0)", x.runs(59, 0), 0);
        Due.is("runs(60, 0)", x.runs(60, 0), 1);
        Due.is("runs(59, 1)", x.runs(59, 1), 0);
        Due.is("runs(60, 1)", x.runs(60, 1), 5);
        for (int what = 0; what <= 3; what++) {
            Due.is("runs(61, " + what + ")", x.runs(61, what), BAD);
        }
        Due.is("rule(2)", x.rule(2), 0);
    }

    private static void runsFlights() {
        Due.sentence("17 runs(): 2 FLIGHTS in them, from none to that of the 60th day");
        SorrowSpots x = EdgesTest.notEachSixth();
        Due.is("runs(0, 2)", x.runs(0, 2), 0);
        Due.is("runs(5, 2)", x.runs(5, 2), 0);
        Due.is("runs(6, 2)", x.runs(6, 2), 1);
        Due.is("runs(59, 2)", x.runs(59, 2), 9);
        Due.is("runs(60, 2)", x.runs(60, 2), 10);
        Due.is("not those before: days(6)", x.days(6), 0);
        Due.is("runs(0, 2)", x.runs(0, 2), 0);
        Due.is("runs(6, 2)", x.runs(6, 2), 1);
    }

    private static void runsAllSitFirst() {
        Due.sentence("17 runs(): behind how many all SIT first (3: from 0 on; NONE)");
        SorrowSpots x = Due.told("one 3;one 3;red 1 0 6;");
        x.dab(0, 1, 1);
        Due.is("runs(2, 3)", x.runs(2, 3), NONE);
        Due.is("runs(3, 3)", x.runs(3, 3), 3);
        Due.is("runs(60, 3)", x.runs(60, 3), 3);
        x.days(3);
        Due.is("runs(0, 3)", x.runs(0, 3), 0);
        Due.is("runs(60, 3)", x.runs(60, 3), 0);
        // first, not last: it sits behind 0, 6, 12 ..
        Due.is("runs(60, 3)", EdgesTest.eachSixth().runs(60, 3), 0);
        SorrowSpots y = EdgesTest.eachSixth();
        y.days(1);
        Due.is("runs(4, 3)", y.runs(4, 3), NONE);
        Due.is("runs(5, 3)", y.runs(5, 3), 5);
        Due.is("runs(60, 3)", y.runs(60, 3), 5);
    }

    private static void runsAllSitOnTheLastDay() {
        Due.sentence("17 runs(): all SIT first behind 60 days; behind 61 is NONE");
        SorrowSpots x = Due.told(ALL_60);
        for (int n = 0; n <= 60; n++) {
            Due.is("how many SIT behind " + n, x.runs(n, 0) == 3 ? 1 : 0, n == 60 ? 1 : 0);
        }
        Due.is("runs(60, 3)", x.runs(60, 3), 60);
        Due.is("runs(59, 3)", x.runs(59, 3), NONE);
        SorrowSpots y = Due.told(ALL_61);
        Due.is("runs(60, 3)", y.runs(60, 3), NONE);
        y.days(1);
        Due.is("a day later: runs(60, 3)", y.runs(60, 3), 60);
    }

    private static void runsAllOfNone() {
        Due.sentence("17 runs(): all SIT, if there are no BEETLES");
        Due.is("runs(0, 3)", new SorrowSpots().runs(0, 3), 0);
        Due.is("runs(60, 3)", Due.told("one 3;").runs(60, 3), 0);
    }

    private static void aheadOfNoneAndSixty() {
        Due.sentence("18 ahead(): BY DAYS, n of them (0 to 60)");
        SorrowSpots x = EdgesTest.eachSixth();
        Due.is("ahead(0, 0)", x.ahead(0, 0), 5);
        Due.is("ahead(0, 1)", x.ahead(0, 1), 0);
        Due.is("ahead(0, 59)", x.ahead(0, 59), 0);
        Due.is("ahead(0, 60)", x.ahead(0, 60), 5);
        Due.is("ahead(0, 61)", x.ahead(0, 61), BAD);
        Due.is("ahead(0, -1)", x.ahead(0, -1), BAD);
        Due.is("ahead(1, 0)", x.ahead(1, 0), BAD);
        Due.is("ahead(-1, 0)", x.ahead(-1, 0), BAD);
        SorrowSpots y = Due.told("one 3;one 3;one 3;one 3;");
        y.dab(3, 9, 3);
        Due.is("the last one: ahead(3, 60)", y.ahead(3, 60), 18);
        Due.is("nobody else: ahead(2, 60)", y.ahead(2, 60), 0);
    }

    private static void whereOfNoneAndSixty() {
        Due.sentence("19 where(): BY DAYS, n of them (0 to 60): on whom a BEETLE SITS then");
        SorrowSpots x = EdgesTest.eachSixth();
        Due.is("where(0, 0)", x.where(0, 0), 0);
        Due.is("where(0, 59)", x.where(0, 59), -14);
        Due.is("where(0, 60)", x.where(0, 60), 0);
        Due.is("where(0, 61)", x.where(0, 61), BAD);
        Due.is("where(0, -1)", x.where(0, -1), BAD);
        Due.is("where(1, 0)", x.where(1, 0), BAD);
        Due.is("where(-1, 0)", x.where(-1, 0), BAD);
        SorrowSpots y = Due.told("one 3;one 3;one 3;one 3;yellow 1 2 3;");
        Due.is("the last one: where(0, 1)", y.where(0, 1), 3);
        Due.is("in the air at his place: where(0, 0)", y.where(0, 0), -13);
    }

    private static void whereInTheAir() {
        Due.sentence("19 where(): it is in the air: -10 less the PLACE (0 to 9)");
        SorrowSpots x = Due.told("one 3;");
        x.dab(0, 1, 0);
        for (int place = 0; place <= 9; place++) {
            x.lift(0, place);
            Due.is("where(0, 0)", x.where(0, 0), -10 - place);
            x.days(9);
            Due.is("rule(3)", x.rule(3), 1);
        }
    }

    private static void homeAtOnce() {
        Due.sentence("20 home(): behind how many (0 ..) a BEETLE SITS first");
        SorrowSpots x = Due.told("one 3;red 1 0 3;red 1 0 4;red 1 0 5;wind 0 9;");
        x.dab(0, 1, 0);
        Due.is("it SITS, if only today: home(3)", x.home(3), 0);
        Due.is("at his place, in the air: home(0)", x.home(0), 1);
        Due.is("home(1)", x.home(1), 1);
        Due.is("home(2)", x.home(2), 2);
        Due.is("home(4)", x.home(4), BAD);
        Due.is("home(-1)", x.home(-1), BAD);
    }

    private static void homeBehindSixty() {
        Due.sentence("20 home(): behind how many (.. to 60); behind 61 is NONE");
        SorrowSpots x = Due.told(HOME_60);
        for (int n = 0; n <= 60; n++) {
            Due.is("it SITS behind " + n, x.where(3, n) >= 0 ? 1 : 0, n == 60 ? 1 : 0);
        }
        Due.is("home(3)", x.home(3), 60);
        SorrowSpots y = Due.told(HOME_61);
        for (int n = 0; n <= 60; n++) {
            Due.is("it SITS behind " + n, y.where(3, n) >= 0 ? 1 : 0, 0);
        }
        Due.is("home(3)", y.home(3), NONE);
        y.days(1);
        Due.is("a day later: home(3)", y.home(3), 60);
        y.days(1);
        Due.is("two days later: home(3)", y.home(3), 59);
    }

    private static void homeNever() {
        Due.sentence("20 home(): NONE: behind none");
        // the red one is blown off each 6th day and 3 days away: the orphan goes back and forth between the two
        SorrowSpots x = Due.told("one 0;one 9;wind 0 4;");
        x.dab(0, 3, 0);
        x.dab(2, 1, 0);
        x.lift(1, 5);
        Due.is("home(1)", x.home(1), NONE);
        Due.is("home(0)", x.home(0), 0);
        x.days(30);
        x.days(30);
        Due.is("rule(3)", x.rule(3), 1);
        Due.is("home(1)", x.home(1), NONE);
    }
}
