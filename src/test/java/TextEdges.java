/** Promises 1 to 10 (EdgesTest). */
final class TextEdges {
    private static final int BAD = SorrowSpots.BAD;
    private static final int FULL = SorrowSpots.FULL;
    private static final int NONE = SorrowSpots.NONE;
    private static final int STATE = SorrowSpots.STATE;
    private static final int GREATEST = Integer.MAX_VALUE;
    private static final int LEAST = Integer.MIN_VALUE;

    private TextEdges() {
    }

    static void hold() {
        nobodyNoBeetles();
        nothingElseYet();
        feedTakes0To127();
        feedUpTo160();
        endKeepsTheFirst();
        endOfNoneAndOfAll();
        textTellsHowManyLines();
        textLessThePlace();
        textEmptiesTheTape();
        faultOfTheLatestText();
        ruleOfNobody();
        ruleOfAll();
        ruleMostCounted();
        oneWhoSits();
        oneByPins();
        beetleOnWhom();
        beetleSeeksNow();
        windOfEach();
        meetAlike();
    }

    private static void nobodyNoBeetles() {
        Due.sentence("1 SorrowSpots(): Nobody, no BEETLES");
        SorrowSpots x = new SorrowSpots();
        Due.is("rule(0)", x.rule(0), 0);
        Due.is("rule(1)", x.rule(1), 0);
        Due.is("one(0, 0)", x.one(0, 0), BAD);
        Due.is("beetle(0, 0)", x.beetle(0, 0), BAD);
        Due.is("meet(0, 1)", x.meet(0, 1), BAD);
        Due.is("alter(0, 0, 0)", x.alter(0, 0, 0), BAD);
        Due.is("walk(0, 0)", x.walk(0, 0), BAD);
        Due.is("dab(0, 1, 0)", x.dab(0, 1, 0), BAD);
        Due.is("lift(0, 0)", x.lift(0, 0), BAD);
        Due.is("ahead(0, 0)", x.ahead(0, 0), BAD);
        Due.is("where(0, 0)", x.where(0, 0), BAD);
        Due.is("home(0)", x.home(0), BAD);
        Due.is("shed(0, 0, 0)", x.shed(0, 0, 0), BAD);
        Due.is("kind(0, 0)", x.kind(0, 0), BAD);
        Due.is("need(0, 0, 0)", x.need(0, 0, 0), BAD);
        Due.is("off(0, 0, 0)", x.off(0, 0, 0), BAD);
        Due.is("luck(0, 0, 0, 0)", x.luck(0, 0, 0, 0), BAD);
        Due.is("mean(0, 0, 0, 0)", x.mean(0, 0, 0, 0), BAD);
        Due.is("see(0, 0, 0)", x.see(0, 0, 0), BAD);
        Due.is("owners(0)", x.owners(0), BAD);
        Due.is("kinds(0)", x.kinds(0), BAD);
        Due.is("ask(0, 0)", x.ask(0, 0), BAD);
        Due.is("days(30)", x.days(30), 0);
        Due.is("runs(60, 0)", x.runs(60, 0), 0);
        Due.is("runs(60, 1)", x.runs(60, 1), 0);
        Due.is("runs(60, 2)", x.runs(60, 2), 0);
        Due.is("all of none sit: runs(0, 3)", x.runs(0, 3), 0);
        Due.is("calm(60, 0)", x.calm(60, 0), NONE);
        Due.is("swap(60, 0)", x.swap(60, 0), NONE);
        Due.is("drift(1, 1, 0)", x.drift(1, 1, 0), STATE);
    }

    private static void nothingElseYet() {
        Due.sentence("1 SorrowSpots(): SHEETS of nothing; no bytes, no FAULTS, nothing SEEN, no IMAGES");
        SorrowSpots x = new SorrowSpots();
        int[] counts = {0, 0, 0, NONE, 0, 0};
        for (int what = 0; what <= 5; what++) {
            Due.is("count(" + what + ")", x.count(what), counts[what]);
        }
        Due.is("fault()", x.fault(), 0);
        Due.is("torn()", x.torn(), 0);
        Due.is("forget(0)", x.forget(0), 0);
        Due.is("end(0)", x.end(0), 0);
        Due.is("back(0)", x.back(0), STATE);
        Due.is("back(1)", x.back(1), STATE);
        for (int k = 0; k <= 3; k++) {
            Due.is("lay(" + k + ", 0, 0)", x.lay(k, 0, 0), -11);
        }
        Due.is("text()", x.text(), 0);
    }

    private static void feedTakes0To127() {
        Due.sentence("2 feed(): A byte (0 to 127)");
        SorrowSpots x = new SorrowSpots();
        for (int c = 0; c <= 127; c++) {
            Due.is("feed(" + c + ")", x.feed(c), c + 1);
        }
        for (int c : new int[] {-1, -128, LEAST, 128, 255, 256, GREATEST}) {
            Due.is("feed(" + c + ")", x.feed(c), BAD);
        }
        Due.is("count(2)", x.count(2), 128);
    }

    private static void feedUpTo160() {
        Due.sentence("2 feed(): how many it has; FULL: more than 160");
        SorrowSpots x = new SorrowSpots();
        for (int i = 1; i <= 160; i++) {
            Due.is("the byte " + i, x.feed(' '), i);
        }
        Due.is("the byte 161", x.feed(' '), FULL);
        Due.is("end(159)", x.end(159), 160);
        Due.is("the byte 160 again", x.feed(' '), 160);
        Due.is("the byte 161 again", x.feed(' '), FULL);
    }

    private static void endKeepsTheFirst() {
        Due.sentence("3 end(): THE TAPE keeps its first n bytes: how many it had");
        SorrowSpots x = new SorrowSpots();
        Due.feed(x, "one 4;one 5;one 6;");
        Due.is("end(12)", x.end(12), 18);
        Due.is("count(2)", x.count(2), 12);
        Due.is("what was cut is gone: end(13)", x.end(13), BAD);
        Due.is("behind those kept: feed", x.feed(' '), 13);
        Due.is("text()", x.text(), 2);
        Due.is("one(1, 0)", x.one(1, 0), 5);
    }

    private static void endOfNoneAndOfAll() {
        Due.sentence("3 end(): BAD (n above that, too)");
        SorrowSpots x = new SorrowSpots();
        Due.is("of nothing: end(0)", x.end(0), 0);
        Due.is("of nothing: end(1)", x.end(1), BAD);
        Due.is("of nothing: end(-1)", x.end(-1), BAD);
        for (int i = 0; i < 160; i++) {
            x.feed(' ');
        }
        Due.is("end(161)", x.end(161), BAD);
        Due.is("end(greatest)", x.end(GREATEST), BAD);
        Due.is("end(least)", x.end(LEAST), BAD);
        Due.is("end(-1)", x.end(-1), BAD);
        Due.is("end(160)", x.end(160), 160);
        Due.is("end(159)", x.end(159), 160);
        Due.is("end(160)", x.end(160), BAD);
        Due.is("end(0)", x.end(0), 159);
        Due.is("end(0)", x.end(0), 0);
        Due.is("text()", x.text(), 0);
    }

    private static void textTellsHowManyLines() {
        Due.sentence("4 text(): how many lines");
        SorrowSpots x = new SorrowSpots();
        Due.is("none", x.text(), 0);
        Due.is("1", Due.tell(x, "wind 0 0;"), 1);
        Due.is("2", Due.tell(x, "one 1;one 1;"), 2);
        Due.is("16", Due.tell(x, "one1;one1;one1;one1;wind0 1;wind1 1;wind2 1;wind3 1;wind4 1;wind5 1;"
                + "red1 0 1;red1 0 1;red1 0 1;red1 0 1;red1 0 1;red1 0 1;"), 16);
    }

    private static void textLessThePlace() {
        Due.sentence("4 text(): -10 less the place of its FAULT");
        SorrowSpots x = new SorrowSpots();
        TextTerms.faulty(x, ";", 2, 0);
        TextTerms.faulty(x, "  ;", 2, 2);
        TextTerms.faulty(x, " ".repeat(159) + ";", 2, 159);
        TextTerms.faulty(x, " ".repeat(156) + "one1", 2, 160);
    }

    private static void textEmptiesTheTape() {
        Due.sentence("4 text(): THE TAPE (empty then, by a FAULT, too)");
        SorrowSpots x = new SorrowSpots();
        Due.is("text()", Due.tell(x, "one 1;"), 1);
        Due.is("count(2)", x.count(2), 0);
        Due.is("text() once more tells nobody", x.text(), 0);
        Due.is("rule(0)", x.rule(0), 0);
        Due.is("text()", Due.tell(x, "one 1"), -15);
        Due.is("count(2)", x.count(2), 0);
        Due.is("end(1)", x.end(1), BAD);
        Due.is("feed(32)", x.feed(32), 1);
        Due.is("nothing of it is left: text()", x.text(), 0);
    }

    private static void faultOfTheLatestText() {
        Due.sentence("5 fault(): The FAULT of the latest text(); 0");
        SorrowSpots x = new SorrowSpots();
        Due.is("ahead of any text: fault()", x.fault(), 0);
        String[] texts = {"?", ";", "one 10;", "wind 1 1;wind 1 1;", "one 1;one 1;one 1;one 1;one 1;", "red 1 0 0;"};
        for (int f = 1; f <= 6; f++) {
            Due.is("text()", Due.tell(x, texts[f - 1]) < -9 ? 1 : 0, 1);
            Due.is("fault()", x.fault(), f);
        }
        x.feed('?');
        x.end(0);
        x.days(1);
        x.keep(0);
        x.back(0);
        x.lay(0, 0, 0);
        Due.is("it stays: fault()", x.fault(), 6);
        Due.is("text() of nothing", x.text(), 0);
        Due.is("fault()", x.fault(), 0);
    }

    private static void ruleOfNobody() {
        Due.sentence("6 rule(): with no PEOPLE, with no BEETLES");
        SorrowSpots x = new SorrowSpots();
        int[] nobody = {0, 0, 0, 0, 0, NONE};
        SorrowSpots y = Due.told("one 3;one 3;");
        int[] noBeetles = {2, 0, 0, 0, 0, NONE};
        for (int what = 0; what <= 5; what++) {
            Due.is("nobody: rule(" + what + ")", x.rule(what), nobody[what]);
            Due.is("no beetles: rule(" + what + ")", y.rule(what), noBeetles[what]);
        }
        Due.is("rule(6)", y.rule(6), BAD);
        Due.is("rule(-1)", y.rule(-1), BAD);
        Due.is("rule(greatest)", y.rule(GREATEST), BAD);
        Due.is("rule(least)", y.rule(LEAST), BAD);
    }

    private static void ruleOfAll() {
        Due.sentence("6 rule(): 3 how many SIT, 4 COUNTED of all, also of six on four");
        SorrowSpots x = Due.told("one 3;one 4;one 5;one 6;");
        for (int b = 0; b < 6; b++) {
            Due.is("rule(3)", x.rule(3), b);
            Due.is("rule(4)", x.rule(4), 18 * b);
            x.dab(3, 9, b % 4);
        }
        Due.is("rule(3)", x.rule(3), 6);
        Due.is("rule(4)", x.rule(4), 108);
        x.lift(5, 4);
        Due.is("rule(3)", x.rule(3), 5);
        Due.is("rule(4)", x.rule(4), 90);
        Due.is("rule(1)", x.rule(1), 6);
    }

    private static void ruleMostCounted() {
        Due.sentence("6 rule(): 5 the ONE who is COUNTED most, of several the first (NONE: nobody is COUNTED)");
        SorrowSpots x = Due.told("one 3;one 4;one 5;one 6;red 9 0 9;");
        Due.is("in the air alone: rule(5)", x.rule(5), NONE);
        x.dab(0, 1, 3);
        Due.is("the last: rule(5)", x.rule(5), 3);
        x.dab(0, 1, 2);
        Due.is("alike with the third: rule(5)", x.rule(5), 2);
        x.dab(0, 2, 1);
        Due.is("the second more: rule(5)", x.rule(5), 1);
        x.dab(0, 1, 2);
        Due.is("the third alike with the second: rule(5)", x.rule(5), 1);
        x.dab(0, 2, 0);
        Due.is("all three alike: rule(5)", x.rule(5), 0);
        x.lift(5, 0);
        Due.is("as before: rule(5)", x.rule(5), 1);
    }

    private static void oneWhoSits() {
        Due.sentence("7 one(): 1 which SIT on him (bits), none to six of them");
        SorrowSpots x = Due.told("one 3;one 3;");
        int bits = 0;
        for (int b = 0; b < 6; b++) {
            Due.is("one(1, 1)", x.one(1, 1), bits);
            x.dab(0, 1, 1);
            bits |= 1 << b;
        }
        Due.is("one(1, 1)", x.one(1, 1), 63);
        Due.is("one(0, 1)", x.one(0, 1), 0);
        x.lift(0, 3);
        x.lift(5, 3);
        Due.is("one(1, 1)", x.one(1, 1), 30);
        Due.is("one(1, 4)", x.one(1, 4), BAD);
        Due.is("one(1, -1)", x.one(1, -1), BAD);
        Due.is("one(2, 1)", x.one(2, 1), BAD);
        Due.is("one(-1, 1)", x.one(-1, 1), BAD);
    }

    private static void oneByPins() {
        Due.sentence("7 one(): 2 COUNTED, 3 what of that is by pins");
        SorrowSpots x = Due.told("one 3;one 3;");
        Due.is("none: one(0, 3)", x.one(0, 3), 0);
        x.dab(0, 9, 0);
        x.dab(1, 9, 0);
        x.dab(2, 9, 0);
        Due.is("no pins: one(0, 2)", x.one(0, 2), 9 + 5 + 6);
        Due.is("no pins: one(0, 3)", x.one(0, 3), 0);
        x.dab(3, 1, 0);
        x.dab(3, 9, 1);
        x.dab(3, 9, 0);
        Due.is("one(0, 2)", x.one(0, 2), 20 + 2 + 18);
        Due.is("one(0, 3)", x.one(0, 3), 20);
        Due.is("one(1, 3)", x.one(1, 3), 18);
        x.alter(0, 0, 3);
        Due.is("the first is a pin, too: one(0, 3)", x.one(0, 3), 38);
        x.alter(5, 0, 0);
        Due.is("the last is none: one(0, 3)", x.one(0, 3), 20);
    }

    private static void beetleOnWhom() {
        Due.sentence("8 beetle(): 3 AT, 4 on whom it SITS (NONE)");
        SorrowSpots x = Due.told("one 9;one 0;red 3 1 0;");
        Due.is("in the air at his place: beetle(0, 4)", x.beetle(0, 4), NONE);
        Due.is("beetle(0, 3)", x.beetle(0, 3), 0);
        x.days(1);
        Due.is("beetle(0, 4)", x.beetle(0, 4), 1);
        x.dab(0, 1, 0);
        Due.is("the first one: beetle(1, 4)", x.beetle(1, 4), 0);
        Due.is("beetle(1, 3)", x.beetle(1, 3), 9);
        Due.is("beetle(1, 7)", x.beetle(1, 7), BAD);
        Due.is("beetle(1, -1)", x.beetle(1, -1), BAD);
        Due.is("beetle(2, 0)", x.beetle(2, 0), BAD);
        Due.is("beetle(-1, 0)", x.beetle(-1, 0), BAD);
    }

    private static void beetleSeeksNow() {
        Due.sentence("8 beetle(): 5 whom it SEEKS now, 6 WEIGHT, also while it SITS");
        SorrowSpots x = Due.told("one 9;one 0;");
        x.dab(1, 7, 1);
        Due.is("a yellow one, sitting: beetle(0, 5)", x.beetle(0, 5), 0);
        Due.is("beetle(0, 6)", x.beetle(0, 6), 4);
        x.alter(0, 0, 2);
        Due.is("an orphan, counted itself: beetle(0, 5)", x.beetle(0, 5), 0);
        Due.is("beetle(0, 6)", x.beetle(0, 6), 5);
        x.dab(3, 3, 0);
        Due.is("the first is counted 6: beetle(0, 5)", x.beetle(0, 5), 1);
        x.alter(1, 1, 2);
        Due.is("the first is counted 4: beetle(0, 5)", x.beetle(0, 5), 0);
    }

    private static void windOfEach() {
        Due.sentence("9 wind(): How strong a WIND is. BAD");
        SorrowSpots x = new SorrowSpots();
        for (int k = 0; k <= 5; k++) {
            Due.is("wind(" + k + ")", x.wind(k), 0);
            x.blow(k, 9 - k);
        }
        for (int k = 0; k <= 5; k++) {
            Due.is("wind(" + k + ")", x.wind(k), 9 - k);
        }
        for (int k : new int[] {-1, 6, LEAST, GREATEST}) {
            Due.is("wind(" + k + ")", x.wind(k), BAD);
        }
    }

    private static void meetAlike() {
        Due.sentence("10 meet(): who makes way (NONE: nobody). BAD (also alike)");
        SorrowSpots x = Due.told("one 9;one 0;one 0;one 9;");
        for (int p = 0; p < 4; p++) {
            Due.is("meet(" + p + ", " + p + ")", x.meet(p, p), BAD);
            Due.is("meet(" + p + ", " + (p + 1) % 4 + ")", x.meet(p, (p + 1) % 4), NONE);
        }
        x.dab(3, 9, 3);
        for (int p = 0; p < 3; p++) {
            Due.is("meet(" + p + ", 3)", x.meet(p, 3), p);
            Due.is("meet(3, " + p + ")", x.meet(3, p), p);
        }
        for (int none : new int[] {-1, 4, LEAST, GREATEST}) {
            Due.is("meet(0, " + none + ")", x.meet(0, none), BAD);
            Due.is("meet(" + none + ", 0)", x.meet(none, 0), BAD);
            Due.is("alike, and there is none", x.meet(none, none), BAD);
        }
    }
}
