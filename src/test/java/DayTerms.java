/** "Terms" on A DAY: the WINDS, who is blown off, how far, who flies, lands and makes way (TermsTest). */
final class DayTerms {
    private static final int NONE = SorrowSpots.NONE;
    private static final int IN_AIR = -10;
    private static final int RED = 0;
    private static final int ORPHAN = 2;
    private static final int PIN = 3;

    private DayTerms() {
    }

    static void hold() {
        windOfDayModuloSix();
        windOfTheLastDays();
        fewerSpotsThanItIsStrong();
        onlyThoseThatSit();
        nineAndNoughtAtTheEnd();
        allAreBlownOffAheadOfAllFlying();
        byOrder();
        landsWhereItIs();
        dayIsOneMore();
        byDaysIsFromNowOn();
        twoMeet();
    }

    /** A county of one ONE at 5 on whom a pin of 1 SPOT sits, no wind, on a DAY. */
    static SorrowSpots onDay(int day) {
        SorrowSpots x = Due.told("one 5;");
        x.dab(PIN, 1, 0);
        for (int i = 0; i < day / 30; i++) {
            x.days(30);
        }
        x.days(day % 30);
        Due.is("rule(2)", x.rule(2), day);
        return x;
    }

    private static void windOfDayModuloSix() {
        Due.sentence("WIND DAY modulo 6 blows");
        for (int day = 0; day <= 13; day++) {
            SorrowSpots x = onDay(day);
            for (int k = 0; k <= 5; k++) {
                x.blow(k, 9);
                Due.is("wind " + k + " on day " + day, x.runs(1, 2), k == day % 6 ? 1 : 0);
                x.blow(k, 0);
            }
        }
    }

    private static void windOfTheLastDays() {
        Due.sentence("WIND DAY modulo 6 blows: on the last days, too, and BY DAYS behind them");
        SorrowSpots x = onDay(996);
        x.blow(0, 9);
        Due.is("day 996 is even, to 9: where(0, 1)", x.where(0, 1), IN_AIR - 6);
        x.blow(0, 0);
        x.days(3);
        for (int k = 0; k <= 5; k++) {
            x.blow(k, 9);
            // 999 modulo 6 is 3
            Due.is("wind " + k + " blows first behind", x.runs((k + 3) % 6, 2), 0);
            Due.is("wind " + k + " has blown behind", x.runs((k + 3) % 6 + 1, 2), 1);
            x.blow(k, 0);
        }
        x.blow(3, 9);
        Due.is("day 999 is odd, to 0: where(0, 1)", x.where(0, 1), IN_AIR - 3);
    }

    private static void fewerSpotsThanItIsStrong() {
        Due.sentence("each BEETLE that SITS and has fewer SPOTS than it is strong is blown off");
        for (int kind = 0; kind < 4; kind++) {
            SorrowSpots x = Due.told("one 5;");
            x.dab(kind, 1, 0);
            for (int spots = 1; spots <= 9; spots++) {
                x.alter(0, 1, spots);
                for (int strong = 0; strong <= 9; strong++) {
                    x.blow(0, strong);
                    Due.is(spots + " SPOTS by " + strong, x.runs(1, 2), spots < strong ? 1 : 0);
                }
            }
        }
    }

    private static void onlyThoseThatSit() {
        Due.sentence("each BEETLE that SITS is blown off (what is in the air is not)");
        SorrowSpots x = Due.told("one 0;red 1 0 5;red 1 0 6;wind 0 9;wind 1 9;wind 2 9;");
        Due.is("runs(3, 2)", x.runs(3, 2), 0);
        Due.is("where(0, 3)", x.where(0, 3), IN_AIR - 2);
        Due.is("where(1, 3)", x.where(1, 3), IN_AIR - 3);
        // two that sit are two FLIGHTS on one day
        SorrowSpots y = Due.told("one 5;one 2;wind 0 9;");
        y.dab(RED, 8, 0);
        y.dab(RED, 9, 0);
        y.dab(PIN, 1, 1);
        Due.is("runs(1, 2)", y.runs(1, 2), 2);
    }

    private static void nineAndNoughtAtTheEnd() {
        Due.sentence("by as many PLACES as it is strong (to greater ones, if DAY is even, else to lesser ones; 9, 0 at the end)");
        for (int place = 0; place <= 9; place++) {
            SorrowSpots x = Due.told("one " + place + ";");
            x.dab(RED, 1, 0);
            for (int strong = 2; strong <= 9; strong++) {
                x.blow(0, strong);
                int to = Math.min(9, place + strong);
                // a red one flies 1 back on the same day
                Due.is(place + " by " + strong, x.where(0, 1), to - place <= 1 ? 0 : IN_AIR - (to - 1));
            }
            x.blow(0, 0);
            x.days(1);
            for (int strong = 2; strong <= 9; strong++) {
                x.blow(1, strong);
                int to = Math.max(0, place - strong);
                Due.is(place + " by " + strong + ", odd", x.where(0, 1), place - to <= 1 ? 0 : IN_AIR - (to + 1));
            }
        }
    }

    private static void allAreBlownOffAheadOfAllFlying() {
        Due.sentence("Then each that is in the air (all are blown off by then)");
        // the orphan is the first by order: if the pin still sat, it would seek the second
        SorrowSpots x = Due.told("one 0;one 9;orphan 9 0 5;wind 0 2;");
        x.dab(PIN, 1, 0);
        Due.is("beetle(0, 5) ahead of it", x.beetle(0, 5), 1);
        Due.is("where(0, 1)", x.where(0, 1), IN_AIR - 4);
        // and what was blown off comes back on the same day, if it is near
        Due.is("where(1, 1)", x.where(1, 1), 0);
    }

    private static void byOrder() {
        Due.sentence("each that is in the air, by order, goes towards the ONE whom it SEEKS then");
        // the orphan by order behind the red one finds the first counted, the one ahead of it does not
        SorrowSpots behind = Due.told("one 4;one 6;red 1 0 4;orphan 1 0 5;");
        Due.is("where(1, 1)", behind.where(1, 1), 1);
        SorrowSpots ahead = Due.told("one 4;one 6;orphan 1 0 5;red 1 0 4;");
        Due.is("where(0, 1)", ahead.where(0, 1), 0);
        Due.is("the red one too: where(1, 1)", ahead.where(1, 1), 0);
    }

    private static void landsWhereItIs() {
        Due.sentence("is it there, it SITS on him (a LANDING)");
        SorrowSpots x = Due.told("one 0;one 9;red 1 0 0;red 1 1 9;red 1 0 1;red 1 1 8;red 1 0 2;red 1 1 7;");
        Due.is("at his place, or a pace from it: days(1)", x.days(1), 4);
        Due.is("the others a day later: days(1)", x.days(1), 2);
        Due.is("who sits lands no more: days(1)", x.days(1), 0);
        // at the place of one whom it does not seek it does not land
        SorrowSpots y = Due.told("one 5;one 7;red 1 1 5;red 1 1 4;");
        Due.is("days(1)", y.days(1), 0);
        Due.is("one(0, 1)", y.one(0, 1), 0);
        // two at one place: on him alone whom it seeks
        SorrowSpots z = Due.told("one 5;one 5;red 1 1 5;");
        Due.is("days(1)", z.days(1), 1);
        Due.is("beetle(0, 4)", z.beetle(0, 4), 1);
    }

    private static void dayIsOneMore() {
        Due.sentence("DAY is 1 more");
        SorrowSpots x = new SorrowSpots();
        for (int day = 1; day <= 7; day++) {
            Due.is("days(1) with nobody", x.days(1), 0);
            Due.is("rule(2)", x.rule(2), day);
        }
        // off to 9 on day 0, back on day 1, off to 1 on day 7
        SorrowSpots y = Due.told("one 5;wind 0 4;wind 1 4;");
        y.dab(PIN, 1, 0);
        Due.is("where(0, 1)", y.where(0, 1), IN_AIR - 6);
        Due.is("days(2)", y.days(2), 1);
        y.blow(0, 0);
        y.days(5);
        Due.is("rule(2)", y.rule(2), 7);
        Due.is("to 1, and 3 back: where(0, 1)", y.where(0, 1), IN_AIR - 4);
    }

    private static void byDaysIsFromNowOn() {
        Due.sentence("BY DAYS: as it would be from now on");
        SorrowSpots x = Due.told("one 5;wind 3 9;");
        x.dab(PIN, 1, 0);
        Due.is("from day 0: runs(3, 2)", x.runs(3, 2), 0);
        Due.is("from day 0: runs(4, 2)", x.runs(4, 2), 1);
        x.days(2);
        Due.is("from day 2: runs(1, 2)", x.runs(1, 2), 0);
        Due.is("from day 2: runs(2, 2)", x.runs(2, 2), 1);
        x.walk(0, 4);
        Due.is("from 4 to 0, and 3 back: where(0, 2)", x.where(0, 2), IN_AIR - 3);
        x.alter(0, 1, 9);
        Due.is("with 9 SPOTS it stays: runs(60, 2)", x.runs(60, 2), 0);
        Due.is("0 days are as it is: where(0, 0)", x.where(0, 0), 0);
    }

    private static void twoMeet() {
        Due.sentence("TWO MEET: who is COUNTED less makes way; if both are COUNTED alike, nobody");
        SorrowSpots x = Due.told("one 5;one 5;");
        Due.is("both 0: meet(0, 1)", x.meet(0, 1), NONE);
        x.dab(RED, 1, 0);
        Due.is("1 and 0: meet(0, 1)", x.meet(0, 1), 1);
        Due.is("1 and 0: meet(1, 0)", x.meet(1, 0), 1);
        x.dab(ORPHAN, 1, 1);
        Due.is("1 and 2: meet(0, 1)", x.meet(0, 1), 0);
        Due.is("1 and 2: meet(1, 0)", x.meet(1, 0), 0);
        x.alter(0, 1, 2);
        Due.is("2 and 2: meet(0, 1)", x.meet(0, 1), NONE);
        Due.is("2 and 2: meet(1, 0)", x.meet(1, 0), NONE);
    }
}
