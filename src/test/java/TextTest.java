/** Promises 1 to 10: a new object, the tape, the text and its faults, what is asked of all as it is. */
public final class TextTest {
    private static final String FIVE_ONES = "one 0;one 1;one 2;one 3;";
    private static final String SIX_BEETLES =
            "red 1 0 0;red 1 0 0;yellow 1 0 0;orphan 1 0 0;pin 1 0 0;pin 1 0 0;";

    public static void main(String[] args) {
        newObject();
        feed();
        end();
        text();
        textTellsAllAnew();
        tokens();
        faults();
        faultsInTheirOrder();
        faultStaysTillNextText();
        rule();
        one();
        beetle();
        seeks();
        wind();
        meet();
        Due.end("TextTest");
    }

    private static void newObject() {
        SorrowSpots x = new SorrowSpots();
        for (int what = 0; what <= 4; what++) {
            Due.is("new: rule(" + what + ")", x.rule(what), 0);
        }
        Due.is("new: rule(5)", x.rule(5), SorrowSpots.NONE);
        for (int k = 0; k <= 5; k++) {
            Due.is("new: wind(" + k + ")", x.wind(k), 0);
        }
        Due.is("new: fault()", x.fault(), 0);
        Due.is("new: torn()", x.torn(), 0);
        Due.is("new: count(0)", x.count(0), 0);
        Due.is("new: count(1)", x.count(1), 0);
        Due.is("new: count(2)", x.count(2), 0);
        Due.is("new: count(3)", x.count(3), SorrowSpots.NONE);
        for (int k = 0; k <= 3; k++) {
            Due.is("new: lay(" + k + ", 0, 0)", x.lay(k, 0, 0), -11);
        }
        Due.is("new: one(0, 0)", x.one(0, 0), SorrowSpots.BAD);
        Due.is("new: beetle(0, 0)", x.beetle(0, 0), SorrowSpots.BAD);
        Due.is("new: back(0)", x.back(0), SorrowSpots.STATE);
    }

    private static void feed() {
        SorrowSpots x = new SorrowSpots();
        Due.is("feed(-1)", x.feed(-1), SorrowSpots.BAD);
        Due.is("feed(128)", x.feed(128), SorrowSpots.BAD);
        Due.is("count(2)", x.count(2), 0);
        Due.is("feed(0)", x.feed(0), 1);
        Due.is("feed(127)", x.feed(127), 2);
        for (int i = 3; i <= 160; i++) {
            Due.is("feed(32), the " + i + "th", x.feed(32), i);
        }
        Due.is("feed(32), the 161st", x.feed(32), SorrowSpots.FULL);
        Due.is("feed(128) to a full tape", x.feed(128), SorrowSpots.BAD);
        Due.is("count(2)", x.count(2), 160);
    }

    private static void end() {
        SorrowSpots x = new SorrowSpots();
        Due.is("end(0)", x.end(0), 0);
        Due.is("end(1) of nothing", x.end(1), SorrowSpots.BAD);
        Due.feed(x, "one 3;one");
        Due.is("end(-1)", x.end(-1), SorrowSpots.BAD);
        Due.is("end(10)", x.end(10), SorrowSpots.BAD);
        Due.is("end(9)", x.end(9), 9);
        Due.is("end(6)", x.end(6), 9);
        Due.is("count(2)", x.count(2), 6);
        Due.is("text()", x.text(), 1);
        Due.is("one(0, 0)", x.one(0, 0), 3);
    }

    private static void text() {
        SorrowSpots x = new SorrowSpots();
        Due.is("text() of nothing", x.text(), 0);
        Due.is("text() of blanks", Due.tell(x, "   "), 0);
        Due.feed(x, "one 4;one 9;red 1 0 2;yellow 2 1 3;orphan 3 0 4;pin 9 1 5;wind 5 9;wind 0 1;");
        Due.is("text()", x.text(), 8);
        Due.is("count(2): the tape is empty then", x.count(2), 0);
        Due.is("fault()", x.fault(), 0);
        Due.is("rule(0)", x.rule(0), 2);
        Due.is("rule(1)", x.rule(1), 4);
        Due.is("one(0, 0)", x.one(0, 0), 4);
        Due.is("one(1, 0)", x.one(1, 0), 9);
        int[][] due = {{0, 1, 0, 2}, {1, 2, 1, 3}, {2, 3, 0, 4}, {3, 9, 1, 5}};
        for (int b = 0; b < due.length; b++) {
            for (int what = 0; what < 4; what++) {
                Due.is("beetle(" + b + ", " + what + ")", x.beetle(b, what), due[b][what]);
            }
            Due.is("in the air: beetle(" + b + ", 4)", x.beetle(b, 4), SorrowSpots.NONE);
        }
        int[] winds = {1, 0, 0, 0, 0, 9};
        for (int k = 0; k < winds.length; k++) {
            Due.is("wind(" + k + ")", x.wind(k), winds[k]);
        }
        Due.is("an owner told behind his beetle", Due.tell(x, "red 1 1 0;one 3;one 4;"), 3);
        Due.is("beetle(0, 5)", x.beetle(0, 5), 1);
        Due.is("all that may be", Due.tell(x, FIVE_ONES + SIX_BEETLES), 10);
        Due.is("all winds", Due.tell(x, "wind 0 0;wind 5 5;wind 2 2;wind 4 4;wind 3 3;wind 1 9;"), 6);
    }

    private static void textTellsAllAnew() {
        SorrowSpots x = Due.told("one 3;one 5;red 2 0 3;wind 3 7;wind 0 1;");
        x.days(3);
        x.see(0, 0, 2);
        x.keep(0);
        x.keep(1);
        x.sheet(0, 0, 7);
        x.read(0, 1, 0, 1);
        Due.is("torn() ahead of it", x.torn(), 3);
        Due.is("a fault: text()", Due.tell(x, "one 1;?"), -16);
        Due.is("that which was told stays: rule(0)", x.rule(0), 2);
        Due.is("that which was told stays: rule(1)", x.rule(1), 1);
        Due.is("that which was told stays: rule(2)", x.rule(2), 3);
        Due.is("that which was told stays: rule(3)", x.rule(3), 1);
        Due.is("that which was told stays: wind(3)", x.wind(3), 7);
        Due.is("that which was told stays: count(0)", x.count(0), 1);
        Due.is("that which was told stays: count(1)", x.count(1), 2);
        Due.is("the tape is empty: count(2)", x.count(2), 0);
        Due.is("text()", Due.tell(x, "one 7;wind 1 2;"), 2);
        Due.is("rule(0)", x.rule(0), 1);
        Due.is("rule(1)", x.rule(1), 0);
        Due.is("rule(2)", x.rule(2), 0);
        Due.is("one(0, 0)", x.one(0, 0), 7);
        Due.is("wind(0)", x.wind(0), 0);
        Due.is("wind(1)", x.wind(1), 2);
        Due.is("wind(3)", x.wind(3), 0);
        Due.is("nothing is seen: count(0)", x.count(0), 0);
        Due.is("images are gone: count(1)", x.count(1), 0);
        Due.is("images are gone: back(0)", x.back(0), SorrowSpots.STATE);
        Due.is("images are gone: keep(1)", x.keep(1), 0);
        Due.is("sheets stay: count(3)", x.count(3), 7);
        Due.is("torn() stays", x.torn(), 3);
        Due.is("an empty text takes all", x.text(), 0);
        Due.is("rule(0)", x.rule(0), 0);
        Due.is("wind(1)", x.wind(1), 0);
    }

    private static void tokens() {
        SorrowSpots x = new SorrowSpots();
        Due.is("no blanks but between numbers", Due.tell(x, "one1;red2 0 9;wind0 9;"), 3);
        Due.is("many blanks", Due.tell(x, "   one   1   ;  red 2  0 9 ; "), 2);
        Due.is("two figures", Due.tell(x, "one 09;one 00;red 01 01 07;"), 3);
        Due.is("one(0, 0)", x.one(0, 0), 9);
        Due.is("beetle(0, 3)", x.beetle(0, 3), 7);
        fault(x, "onered 1;", 2, 0);
        fault(x, "one 1;redred 1 0 0;", 2, 6);
        fault(x, "on 1;", 2, 0);
        fault(x, "ones 1;", 2, 0);
        fault(x, "ane 1;", 2, 0);
        fault(x, "pix 1 0 0;", 2, 0);
        fault(x, "one 1; a", 2, 7);
        fault(x, "one 1; z", 2, 7);
        fault(x, "one 1; 0", 2, 7);
        fault(x, "one 1; 9", 2, 7);
        fault(x, "one 1;red 100 0;", 1, 10);
        fault(x, "one 1;red 10 0;", 3, 10);
        fault(x, "One 1;", 1, 0);
        fault(x, "one\t1;", 1, 3);
        fault(x, "one 1;\n", 1, 6);
        fault(x, "one 1.", 1, 5);
        fault(x, "one -1;", 1, 4);
        fault(x, "one 1;`", 1, 6);
        fault(x, "one 1;{", 1, 6);
        fault(x, "one 1:", 1, 5);
        fault(x, "one 1/", 1, 5);
        fault(x, "one 1;\0", 1, 6);
        fault(x, "one 1;\177", 1, 6);
    }

    private static void faults() {
        SorrowSpots x = new SorrowSpots();
        fault(x, "one 000;", 1, 4);
        fault(x, "123", 1, 0);
        fault(x, "12", 2, 0);
        fault(x, ";", 2, 0);
        fault(x, "one 1;;", 2, 6);
        fault(x, "blue 1;", 2, 0);
        fault(x, "one one;", 2, 4);
        fault(x, "one;", 2, 3);
        fault(x, "one 1 1;", 2, 6);
        fault(x, "red 1 0;", 2, 7);
        fault(x, "wind 1 1 1;", 2, 9);
        fault(x, "one", 2, 3);
        fault(x, "one 1", 2, 5);
        fault(x, "one 1  ", 2, 7);
        fault(x, "one  ", 2, 5);
        fault(x, "one 10;", 3, 4);
        fault(x, "red 0 0 0;", 3, 4);
        fault(x, "yellow 10 0 0;", 3, 7);
        fault(x, "orphan 1 4 0;", 3, 9);
        fault(x, "pin 1 3 10;", 3, 8);
        fault(x, "wind 6 0;", 3, 5);
        fault(x, "wind 5 10;", 3, 7);
        fault(x, "wind 5 0;wind 5 0;", 4, 14);
        fault(x, "wind 0 9;wind 1 0;wind 0 9;", 4, 23);
        fault(x, FIVE_ONES + "one 4;", 5, 24);
        fault(x, SIX_BEETLES + "red 1 0 0;", 5, SIX_BEETLES.length());
        fault(x, SIX_BEETLES + "yellow 1 0 0;", 5, SIX_BEETLES.length());
        fault(x, SIX_BEETLES + "orphan 1 0 0;", 5, SIX_BEETLES.length());
        fault(x, SIX_BEETLES + " pin 1 0 0;", 5, SIX_BEETLES.length() + 1);
        fault(x, "red 1 0 0;", 6, 10);
        fault(x, "one 1;red 1 1 0;", 6, 16);
        fault(x, "one 1;red 1 1 0;wind 0 0; ", 6, 26);
        Due.is("rule(0): nothing came", x.rule(0), 0);
    }

    private static void faultsInTheirOrder() {
        SorrowSpots x = new SorrowSpots();
        // a token is read when the one before has been taken
        fault(x, "one 10?", 3, 4);
        fault(x, "wind 1 1;wind 1 ?", 4, 14);
        fault(x, "wind 1 1;wind 1", 4, 14);
        fault(x, "wind 1 1;wind 6 ?", 3, 14);
        fault(x, FIVE_ONES + "one ?", 5, 24);
        fault(x, FIVE_ONES + "one", 5, 24);
        fault(x, FIVE_ONES + "ones", 2, 24);
        fault(x, "blue ?", 2, 0);
        fault(x, "red 1 3 0;one 10;", 3, 14);
        fault(x, "one 1 ?", 1, 6);
        // a wind that was refused was not told, and no text is left by another
        fault(x, "wind 1 10;", 3, 7);
        Due.is("text()", Due.tell(x, "wind 1 9;"), 1);
        Due.is("text()", Due.tell(x, "wind 1 8;"), 1);
        Due.is("wind(1)", x.wind(1), 8);
    }

    private static void faultStaysTillNextText() {
        SorrowSpots x = new SorrowSpots();
        fault(x, "one 1", 2, 5);
        x.feed('o');
        x.end(0);
        x.keep(0);
        x.back(0);
        Due.is("fault() of the latest text()", x.fault(), 2);
        Due.is("text()", Due.tell(x, "one 1;"), 1);
        Due.is("fault()", x.fault(), 0);
        String longest = "?" + " ".repeat(159);
        fault(x, longest, 1, 0);
        fault(x, " ".repeat(159) + "?", 1, 159);
        fault(x, " ".repeat(157) + "one", 2, 160);
    }

    private static void fault(SorrowSpots x, String text, int fault, int place) {
        Due.is("text() of '" + text + "'", Due.tell(x, text), -10 - place);
        Due.is("fault() of '" + text + "'", x.fault(), fault);
        Due.is("count(2) behind '" + text + "'", x.count(2), 0);
    }

    private static void rule() {
        SorrowSpots x = Due.told("one 3;one 5;one 5;red 4 0 3;yellow 5 1 9;pin 2 1 5;wind 5 1;");
        Due.is("rule(-1)", x.rule(-1), SorrowSpots.BAD);
        Due.is("rule(6)", x.rule(6), SorrowSpots.BAD);
        Due.is("rule(0)", x.rule(0), 3);
        Due.is("rule(1)", x.rule(1), 3);
        Due.is("rule(2)", x.rule(2), 0);
        Due.is("rule(3)", x.rule(3), 0);
        Due.is("rule(4)", x.rule(4), 0);
        Due.is("rule(5)", x.rule(5), SorrowSpots.NONE);
        x.days(1);
        Due.is("rule(2)", x.rule(2), 1);
        Due.is("rule(3)", x.rule(3), 2);
        Due.is("rule(4)", x.rule(4), 8);
        Due.is("rule(5), of several the first", x.rule(5), 0);
        x.days(1);
        // the yellow one comes to the third: 3 of its 5 spots
        Due.is("rule(3)", x.rule(3), 3);
        Due.is("rule(4)", x.rule(4), 11);
        x.alter(2, 1, 3);
        Due.is("rule(5)", x.rule(5), 1);
    }

    private static void one() {
        SorrowSpots x = Due.told("one 3;one 5;");
        x.dab(0, 4, 0);
        x.dab(3, 2, 0);
        x.dab(2, 4, 1);
        x.dab(3, 9, 0);
        Due.is("one(0, 0)", x.one(0, 0), 3);
        Due.is("one(0, 1)", x.one(0, 1), 1 + 2 + 8);
        Due.is("one(0, 2)", x.one(0, 2), 4 + 4 + 18);
        Due.is("one(0, 3)", x.one(0, 3), 4 + 18);
        Due.is("one(1, 0)", x.one(1, 0), 5);
        Due.is("one(1, 1)", x.one(1, 1), 4);
        Due.is("one(1, 2)", x.one(1, 2), 3);
        Due.is("one(1, 3)", x.one(1, 3), 0);
        x.alter(0, 0, 3);
        Due.is("one(0, 3): the first is a pin now", x.one(0, 3), 8 + 4 + 18);
        x.alter(0, 0, 0);
        x.lift(1, 3);
        Due.is("one(0, 1): it is in the air", x.one(0, 1), 1 + 8);
        Due.is("one(0, 3): it is in the air", x.one(0, 3), 18);
        Due.is("one(-1, 0)", x.one(-1, 0), SorrowSpots.BAD);
        Due.is("one(2, 0)", x.one(2, 0), SorrowSpots.BAD);
        Due.is("one(0, -1)", x.one(0, -1), SorrowSpots.BAD);
        Due.is("one(0, 4)", x.one(0, 4), SorrowSpots.BAD);
    }

    private static void beetle() {
        SorrowSpots x = Due.told("one 3;one 5;orphan 7 1 9;");
        int[] due = {2, 7, 1, 9, SorrowSpots.NONE, 0, 5};
        for (int what = 0; what < due.length; what++) {
            Due.is("beetle(0, " + what + ")", x.beetle(0, what), due[what]);
        }
        x.dab(1, 8, 0);
        int[] dabbed = {1, 8, 0, 3, 0, 1, 4};
        for (int what = 0; what < dabbed.length; what++) {
            Due.is("beetle(1, " + what + ")", x.beetle(1, what), dabbed[what]);
        }
        x.walk(0, 8);
        Due.is("AT his place, wherever he is", x.beetle(1, 3), 8);
        for (int spots = 1; spots <= 9; spots++) {
            x.alter(1, 1, spots);
            int[] weights = {spots, (spots + 1) / 2, (spots + 1) / 2 + 1, 2 * spots};
            for (int kind = 0; kind < weights.length; kind++) {
                x.alter(1, 0, kind);
                Due.is("weight of " + spots + " by " + kind, x.beetle(1, 6), weights[kind]);
            }
        }
        Due.is("beetle(-1, 0)", x.beetle(-1, 0), SorrowSpots.BAD);
        Due.is("beetle(2, 0)", x.beetle(2, 0), SorrowSpots.BAD);
        Due.is("beetle(0, -1)", x.beetle(0, -1), SorrowSpots.BAD);
        Due.is("beetle(0, 7)", x.beetle(0, 7), SorrowSpots.BAD);
    }

    private static void seeks() {
        SorrowSpots x = Due.told("one 1;one 2;one 3;red 1 1 0;yellow 1 1 0;yellow 1 2 0;orphan 1 2 0;pin 1 2 0;");
        int[] due = {1, 2, 0, 0, 2};
        for (int b = 0; b < due.length; b++) {
            Due.is("beetle(" + b + ", 5)", x.beetle(b, 5), due[b]);
        }
        x.dab(0, 2, 0);
        Due.is("orphan: the one counted least, the first", x.beetle(3, 5), 1);
        Due.is("yellow with one alone", Due.told("one 1;yellow 1 0 0;").beetle(0, 5), 0);
    }

    private static void wind() {
        SorrowSpots x = Due.told("wind 0 4;wind 5 9;");
        Due.is("wind(0)", x.wind(0), 4);
        Due.is("wind(1)", x.wind(1), 0);
        Due.is("wind(5)", x.wind(5), 9);
        Due.is("wind(-1)", x.wind(-1), SorrowSpots.BAD);
        Due.is("wind(6)", x.wind(6), SorrowSpots.BAD);
    }

    private static void meet() {
        SorrowSpots x = Due.told("one 1;one 1;one 1;");
        x.dab(0, 4, 0);
        x.dab(3, 2, 2);
        Due.is("meet(0, 1)", x.meet(0, 1), 1);
        Due.is("meet(1, 0)", x.meet(1, 0), 1);
        Due.is("meet(1, 2)", x.meet(1, 2), 1);
        Due.is("meet(0, 2): alike", x.meet(0, 2), SorrowSpots.NONE);
        Due.is("meet(0, 0)", x.meet(0, 0), SorrowSpots.BAD);
        Due.is("meet(-1, 0)", x.meet(-1, 0), SorrowSpots.BAD);
        Due.is("meet(0, -1)", x.meet(0, -1), SorrowSpots.BAD);
        Due.is("meet(3, 0)", x.meet(3, 0), SorrowSpots.BAD);
        Due.is("meet(0, 3)", x.meet(0, 3), SorrowSpots.BAD);
    }
}
