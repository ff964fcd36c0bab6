/** Promises 16 to 20: A DAY, and what would be BY DAYS. */
public final class DaysTest {
    public static void main(String[] args) {
        paces();
        flights();
        strongAsSpotsBlowsNothing();
        windsOfAllDays();
        ends();
        inTheirOrder();
        days();
        runs();
        ahead();
        where();
        home();
        nothingIsChanged();
        Due.end("DaysTest");
    }

    private static void paces() {
        SorrowSpots x = Due.told("one 0;red 1 0 9;yellow 1 0 9;orphan 1 0 9;pin 1 0 9;");
        int[] paces = {1, 2, 1, 3};
        for (int b = 0; b < paces.length; b++) {
            Due.is("where(" + b + ", 1)", x.where(b, 1), -10 - (9 - paces[b]));
            Due.is("home(" + b + ")", x.home(b), (9 + paces[b] - 1) / paces[b]);
        }
        SorrowSpots y = Due.told("one 9;red 1 0 0;yellow 1 0 0;orphan 1 0 0;pin 1 0 0;");
        for (int b = 0; b < paces.length; b++) {
            Due.is("where(" + b + ", 1)", y.where(b, 1), -10 - paces[b]);
        }
        SorrowSpots z = Due.told("one 5;red 1 0 5;yellow 1 0 4;pin 1 0 7;");
        Due.is("at most, no further: days(1)", z.days(1), 3);
    }

    private static void flights() {
        SorrowSpots x = Due.told("one 5;red 3 0 5;wind 0 4;wind 1 4;");
        Due.is("where(0, 0)", x.where(0, 0), -15);
        Due.is("in the air it is not blown: where(0, 1)", x.where(0, 1), 0);
        Due.is("an odd day, to 1, and 1 back: where(0, 2)", x.where(0, 2), -12);
        Due.is("where(0, 4)", x.where(0, 4), -14);
        Due.is("where(0, 5)", x.where(0, 5), 0);
        Due.is("where(0, 6)", x.where(0, 6), 0);
        Due.is("an even day, to 9, and 1 back: where(0, 7)", x.where(0, 7), -18);
        Due.is("runs(1, 2)", x.runs(1, 2), 0);
        Due.is("runs(2, 2)", x.runs(2, 2), 1);
        Due.is("runs(7, 2)", x.runs(7, 2), 2);
        Due.is("days(1)", x.days(1), 1);
        Due.is("days(4)", x.days(4), 1);
        Due.is("days(2)", x.days(2), 0);
        Due.is("beetle(0, 3)", x.beetle(0, 3), 8);
    }

    private static void strongAsSpotsBlowsNothing() {
        SorrowSpots x = Due.told("one 5;wind 0 3;");
        x.dab(0, 3, 0);
        Due.is("runs(1, 2) of 3 spots by 3", x.runs(1, 2), 0);
        x.alter(0, 1, 2);
        Due.is("runs(1, 2) of 2 spots by 3", x.runs(1, 2), 1);
        // whatever it weighs
        x.alter(0, 0, 3);
        Due.is("runs(1, 2) of a pin of 2 spots by 3", x.runs(1, 2), 1);
        Due.is("blown off, back on the same day", x.days(1), 1);
        Due.is("rule(3)", x.rule(3), 1);
    }

    private static void windsOfAllDays() {
        SorrowSpots x = Due.told("one 5;");
        x.dab(3, 1, 0);
        for (int k = 0; k < 6; k++) {
            x.blow(k, 9);
            Due.is("runs(" + k + ", 2)", x.runs(k, 2), 0);
            Due.is("runs(" + (k + 1) + ", 2)", x.runs(k + 1, 2), 1);
            x.blow(k, 0);
        }
        x.days(30);
        x.days(4);
        x.blow(4, 9);
        Due.is("runs(1, 2) on day 34", x.runs(1, 2), 1);
        x.blow(4, 0);
        x.blow(3, 9);
        Due.is("runs(5, 2) on day 34", x.runs(5, 2), 0);
        Due.is("runs(6, 2) on day 34", x.runs(6, 2), 1);
    }

    private static void ends() {
        SorrowSpots x = Due.told("one 8;wind 0 5;wind 1 9;");
        x.dab(0, 1, 0);
        Due.is("9 at the end: home behind a day", x.where(0, 1), 0);
        x.walk(0, 7);
        Due.is("9 at the end: where(0, 1)", x.where(0, 1), -18);
        x.blow(0, 0);
        Due.is("0 at the end: where(0, 2)", x.where(0, 2), -11);
        x.blow(1, 7);
        Due.is("just 0: where(0, 2)", x.where(0, 2), -11);
    }

    private static void inTheirOrder() {
        // the first orphan lands on the first one, so the second seeks the second
        SorrowSpots x = Due.told("one 5;one 5;orphan 3 0 4;orphan 3 0 6;");
        Due.is("days(1)", x.days(1), 2);
        Due.is("beetle(0, 4)", x.beetle(0, 4), 0);
        Due.is("beetle(1, 4)", x.beetle(1, 4), 1);
        // all are blown off ahead of all flying: so nobody is counted when the orphan seeks
        SorrowSpots y = Due.told("one 0;one 9;wind 0 5;");
        y.dab(2, 3, 1);
        y.dab(0, 3, 0);
        Due.is("days(1)", y.days(1), 0);
        Due.is("beetle(0, 3): to 9 and towards the first", y.beetle(0, 3), 8);
        Due.is("beetle(1, 3): to 5 and towards the first", y.beetle(1, 3), 4);
        // the orphan was on the one counted least, and would not be sought by itself
        Due.is("beetle(0, 5)", y.beetle(0, 5), 0);
    }

    private static void days() {
        SorrowSpots x = Due.told("one 5;red 3 0 5;");
        Due.is("days(-1)", x.days(-1), SorrowSpots.BAD);
        Due.is("days(31)", x.days(31), SorrowSpots.BAD);
        Due.is("days(0)", x.days(0), 0);
        Due.is("rule(2)", x.rule(2), 0);
        Due.is("days(30)", x.days(30), 1);
        Due.is("rule(2)", x.rule(2), 30);
        for (int i = 0; i < 32; i++) {
            Due.is("days(30)", x.days(30), 0);
        }
        Due.is("rule(2)", x.rule(2), 990);
        Due.is("days(10)", x.days(10), SorrowSpots.FULL);
        Due.is("days(30)", x.days(30), SorrowSpots.FULL);
        Due.is("days(31)", x.days(31), SorrowSpots.BAD);
        Due.is("rule(2)", x.rule(2), 990);
        Due.is("days(9)", x.days(9), 0);
        Due.is("rule(2)", x.rule(2), 999);
        Due.is("days(1)", x.days(1), SorrowSpots.FULL);
        Due.is("days(0)", x.days(0), 0);
        x.blow(5, 9);
        x.blow(0, 9);
        // to 0 on day 1001, and on each 6th from there to 1055; back ahead of the next wind 5
        Due.is("runs go on past day 1000: runs(60, 2)", x.runs(60, 2), 10);
        x.blow(3, 4);
        x.walk(0, 9);
        // days 999 (999 modulo 6 is 3) and 1002 (0): by 4 to 5, landed again on 1002
        Due.is("where(0, 3)", x.where(0, 3), -18);
        Due.is("where(0, 4)", x.where(0, 4), 0);
    }

    private static void runs() {
        SorrowSpots x = Due.told("one 5;one 2;red 3 0 8;yellow 3 0 9;pin 4 1 2;");
        Due.is("runs(-1, 0)", x.runs(-1, 0), SorrowSpots.BAD);
        Due.is("runs(61, 0)", x.runs(61, 0), SorrowSpots.BAD);
        Due.is("runs(0, -1)", x.runs(0, -1), SorrowSpots.BAD);
        Due.is("runs(0, 4)", x.runs(0, 4), SorrowSpots.BAD);
        int[] sitting = {0, 1, 1, 2, 3};
        int[] counted = {0, 8, 8, 11, 13};
        for (int n = 0; n < sitting.length; n++) {
            Due.is("runs(" + n + ", 0)", x.runs(n, 0), sitting[n]);
            Due.is("runs(" + n + ", 1)", x.runs(n, 1), counted[n]);
            Due.is("runs(" + n + ", 2)", x.runs(n, 2), 0);
            Due.is("runs(" + n + ", 3)", x.runs(n, 3), n < 4 ? SorrowSpots.NONE : 4);
        }
        Due.is("runs(60, 0)", x.runs(60, 0), 3);
        Due.is("runs(60, 3)", x.runs(60, 3), 4);
        SorrowSpots full = Due.told("one 0;one 1;one 2;one 3;"
                + "red 1 0 1;red 2 1 2;red 3 2 3;red 4 3 4;pin 5 3 9;yellow 7 2 4;");
        Due.is("all that may be: runs(1, 0)", full.runs(1, 0), 5);
        Due.is("all that may be: runs(1, 1)", full.runs(1, 1), 14);
        Due.is("all that may be: runs(2, 1)", full.runs(2, 1), 24);
        Due.is("all that may be: runs(60, 3)", full.runs(60, 3), 2);
        x.days(4);
        Due.is("runs(0, 3): from 0 on", x.runs(0, 3), 0);
        Due.is("no beetles: all sit", new SorrowSpots().runs(9, 3), 0);
        Due.is("no beetles: runs(9, 0)", new SorrowSpots().runs(9, 0), 0);
    }

    private static void ahead() {
        SorrowSpots x = Due.told("one 5;one 2;red 3 0 8;pin 4 1 2;");
        Due.is("ahead(-1, 0)", x.ahead(-1, 0), SorrowSpots.BAD);
        Due.is("ahead(2, 0)", x.ahead(2, 0), SorrowSpots.BAD);
        Due.is("ahead(0, -1)", x.ahead(0, -1), SorrowSpots.BAD);
        Due.is("ahead(0, 61)", x.ahead(0, 61), SorrowSpots.BAD);
        Due.is("ahead(0, 2)", x.ahead(0, 2), 0);
        Due.is("ahead(0, 3)", x.ahead(0, 3), 3);
        Due.is("ahead(1, 0)", x.ahead(1, 0), 0);
        Due.is("ahead(1, 1)", x.ahead(1, 1), 8);
        Due.is("ahead(1, 60)", x.ahead(1, 60), 8);
    }

    private static void where() {
        SorrowSpots x = Due.told("one 0;one 9;red 3 0 9;red 4 1 0;");
        Due.is("where(-1, 0)", x.where(-1, 0), SorrowSpots.BAD);
        Due.is("where(2, 0)", x.where(2, 0), SorrowSpots.BAD);
        Due.is("where(0, -1)", x.where(0, -1), SorrowSpots.BAD);
        Due.is("where(0, 61)", x.where(0, 61), SorrowSpots.BAD);
        Due.is("where(0, 0)", x.where(0, 0), -19);
        Due.is("where(1, 0)", x.where(1, 0), -10);
        Due.is("where(0, 8)", x.where(0, 8), -11);
        Due.is("where(0, 9)", x.where(0, 9), 0);
        Due.is("where(1, 9)", x.where(1, 9), 1);
        Due.is("where(1, 60)", x.where(1, 60), 1);
    }

    private static void home() {
        SorrowSpots x = Due.told("one 0;one 9;red 3 0 9;red 4 1 9;");
        Due.is("home(-1)", x.home(-1), SorrowSpots.BAD);
        Due.is("home(2)", x.home(2), SorrowSpots.BAD);
        Due.is("home(0)", x.home(0), 9);
        Due.is("home(1)", x.home(1), 1);
        x.days(9);
        Due.is("home(0): it sits", x.home(0), 0);
        // The red one is blown off each 6th day and is 3 days away, the orphan goes to its ONE then,
        // and for 3 days to the other: it never comes to either.
        SorrowSpots y = Due.told("one 0;one 9;wind 0 4;");
        y.dab(0, 3, 0);
        y.dab(2, 1, 0);
        y.lift(1, 5);
        Due.is("home(1): never", y.home(1), SorrowSpots.NONE);
        Due.is("where(1, 60)", y.where(1, 60), -15);
        Due.is("where(1, 57)", y.where(1, 57), -12);
        Due.is("home(0)", y.home(0), 0);
        SorrowSpots late = Due.told("one 0;one 9;orphan 1 0 5;orphan 5 1 3;orphan 2 1 2;orphan 5 0 4;"
                + "wind 0 6;wind 3 5;wind 4 5;");
        Due.is("home(3): the last day", late.home(3), 60);
        Due.is("where(3, 59)", late.where(3, 59) < -9 ? 1 : 0, 1);
        Due.is("where(3, 60)", late.where(3, 60), 0);
    }

    private static void nothingIsChanged() {
        SorrowSpots x = Due.told("one 5;one 2;red 3 0 8;orphan 4 1 2;wind 0 9;wind 3 9;");
        x.days(2);
        x.see(1, 1, 2);
        String was = told(x);
        x.runs(60, 0);
        x.runs(60, 3);
        x.ahead(0, 60);
        x.where(0, 60);
        x.home(0);
        x.shed(0, 60, 0);
        x.calm(60, 0);
        x.kind(0, 0);
        x.swap(60, 0);
        x.need(0, 0, 60);
        x.off(0, 60, 0);
        x.luck(5, 0, 8, 0);
        x.mean(5, 0, 8, 0);
        x.owners(0);
        x.kinds(0);
        x.ask(1, 0);
        x.drift(5, 60, 0);
        Due.is("all is as it was", told(x).equals(was) ? 1 : 0, 1);
    }

    private static String told(SorrowSpots x) {
        StringBuilder all = new StringBuilder();
        for (int what = 0; what <= 6; what++) {
            all.append(x.rule(what)).append(' ').append(x.count(what)).append(' ').append(x.wind(what));
            for (int i = 0; i < 6; i++) {
                all.append(' ').append(x.one(i, what)).append(' ').append(x.beetle(i, what));
            }
        }
        return all.toString();
    }
}
