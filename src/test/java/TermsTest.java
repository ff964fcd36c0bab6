/** "Terms" of the document: each sentence there that names a bound or an edge has a test of its own. */
public final class TermsTest {
    private static final int BAD = SorrowSpots.BAD;
    private static final int STATE = SorrowSpots.STATE;
    private static final int FULL = SorrowSpots.FULL;
    private static final int NONE = SorrowSpots.NONE;
    private static final int IN_AIR = -10;
    private static final int RED = 0;
    private static final int YELLOW = 1;
    private static final int ORPHAN = 2;
    private static final int PIN = 3;

    public static void main(String[] args) {
        badAheadOfState();
        badAheadOfFull();
        badAheadOfNone();
        badAheadOfFaults();
        zeroIsZeroByOne();
        lowestTerms();
        fourPeopleAtMost();
        placesOfPeople();
        sixBeetlesAtMost();
        sixBeetlesByBoth();
        fourKinds();
        spotsFromOneToNine();
        ownersAreOnes();
        placesInTheAir();
        sitsWhereverHeIs();
        sixWinds();
        windsFromNoughtToNine();
        atFirst();
        redAndPinSeekTheirOwner();
        yellowBehindTheLastTheFirst();
        orphanSeeksTheFirstOfSeveral();
        orphanSeeksAsItIsThen();
        paces();
        weights();
        countedOfNoneAndOfAll();
        TextTerms.hold();
        DayTerms.hold();
        SeenAndSheetTerms.hold();
        Due.end("TermsTest");
    }

    private static void badAheadOfState() {
        Due.sentence("the first that fits: BAD ahead of STATE");
        SorrowSpots x = Due.told("one 5;red 1 0 4;");
        Due.is("lift(0, 9)", x.lift(0, 9), STATE);
        Due.is("lift(0, 10)", x.lift(0, 10), BAD);
        Due.is("lift(0, -1)", x.lift(0, -1), BAD);
        Due.is("back(1)", x.back(1), STATE);
        Due.is("back(2)", x.back(2), BAD);
        SorrowSpots y = new SorrowSpots();
        Due.is("drift(1, 1, 0)", y.drift(1, 1, 0), STATE);
        Due.is("drift(1, 60, 1)", y.drift(1, 60, 1), STATE);
        Due.is("drift(1, 0, 0)", y.drift(1, 0, 0), BAD);
        Due.is("drift(1, 61, 0)", y.drift(1, 61, 0), BAD);
        Due.is("drift(1, 1, 2)", y.drift(1, 1, 2), BAD);
    }

    private static void badAheadOfFull() {
        Due.sentence("the first that fits: BAD ahead of FULL");
        SorrowSpots x = Due.told("one 5;");
        for (int i = 0; i < 160; i++) {
            x.feed(32);
        }
        Due.is("feed(127)", x.feed(127), FULL);
        Due.is("feed(128)", x.feed(128), BAD);
        Due.is("feed(-1)", x.feed(-1), BAD);
        for (int i = 0; i < 6; i++) {
            x.dab(0, 1, 0);
            x.see(0, 0, 0);
        }
        Due.is("dab(0, 1, 0)", x.dab(0, 1, 0), FULL);
        Due.is("dab(4, 1, 0)", x.dab(4, 1, 0), BAD);
        Due.is("dab(0, 10, 0)", x.dab(0, 10, 0), BAD);
        Due.is("dab(0, 1, 1)", x.dab(0, 1, 1), BAD);
        Due.is("see(0, 0, 0)", x.see(0, 0, 0), FULL);
        Due.is("see(21, 0, 0)", x.see(21, 0, 0), BAD);
        Due.is("see(0, 1, 0)", x.see(0, 1, 0), BAD);
        Due.is("see(0, 0, 100)", x.see(0, 0, 100), BAD);
        SorrowSpots y = DayTerms.onDay(999);
        Due.is("days(30)", y.days(30), FULL);
        Due.is("days(31)", y.days(31), BAD);
        Due.is("days(-1)", y.days(-1), BAD);
    }

    private static void badAheadOfNone() {
        Due.sentence("the first that fits: BAD ahead of NONE");
        SorrowSpots x = Due.told("one 5;one 5;");
        x.dab(0, 1, 0);
        Due.is("calm(60, 1)", x.calm(60, 1), NONE);
        Due.is("calm(61, 1)", x.calm(61, 1), BAD);
        Due.is("calm(60, 2)", x.calm(60, 2), BAD);
        Due.is("swap(60, 1)", x.swap(60, 1), NONE);
        Due.is("swap(61, 1)", x.swap(61, 1), BAD);
        Due.is("swap(60, 2)", x.swap(60, 2), BAD);
        Due.is("need(0, 1, 60)", x.need(0, 1, 60), NONE);
        Due.is("need(0, 1, 61)", x.need(0, 1, 61), BAD);
        Due.is("need(1, 1, 60)", x.need(1, 1, 60), BAD);
        Due.is("off(1, 60, 1)", x.off(1, 60, 1), NONE);
        Due.is("off(1, 61, 1)", x.off(1, 61, 1), BAD);
        Due.is("off(1, 60, 2)", x.off(1, 60, 2), BAD);
        Due.is("ask(0, 1)", x.ask(0, 1), NONE);
        Due.is("ask(0, 2)", x.ask(0, 2), BAD);
        Due.is("ask(1, 1)", x.ask(1, 1), BAD);
        x.alter(0, 1, 1);
        x.lift(0, 0);
        Due.is("runs(0, 3)", x.runs(0, 3), NONE);
        Due.is("runs(0, 4)", x.runs(0, 4), BAD);
        Due.is("meet(0, 1)", x.meet(0, 1), NONE);
        Due.is("meet(0, 2)", x.meet(0, 2), BAD);
    }

    private static void badAheadOfFaults() {
        Due.sentence("the first that fits: BAD ahead of what the machine finds");
        SorrowSpots x = Due.told("one 5;");
        Due.is("lay(3, 0, 0)", x.lay(3, 0, 0), -11);
        Due.is("lay(4, 0, 0)", x.lay(4, 0, 0), BAD);
        Due.is("sheet(3, 2, -1)", x.sheet(3, 2, -1), -14);
        Due.is("sheet(4, 2, -1)", x.sheet(4, 2, -1), BAD);
        Due.is("sheet(3, 3, -1)", x.sheet(3, 3, -1), BAD);
        Due.is("read(3, 2, 0, 13)", x.read(3, 2, 0, 13), 0);
        Due.is("read(4, 2, 0, 13)", x.read(4, 2, 0, 13), BAD);
        Due.is("read(3, 3, 0, 13)", x.read(3, 3, 0, 13), BAD);
        Due.is("read(3, 2, 0, 14)", x.read(3, 2, 0, 14), BAD);
    }

    private static void zeroIsZeroByOne() {
        Due.sentence("Fractions: 0 is 0 by 1");
        SorrowSpots x = Due.told("one 0;red 9 0 9;");
        for (int n = 0; n <= 8; n++) {
            Due.is("luck(5, 0, " + n + ", 0)", x.luck(5, 0, n, 0), 0);
            Due.is("luck(5, 0, " + n + ", 1)", x.luck(5, 0, n, 1), 1);
            Due.is("mean(5, 0, " + n + ", 0)", x.mean(5, 0, n, 0), 0);
            Due.is("mean(5, 0, " + n + ", 1)", x.mean(5, 0, n, 1), 1);
        }
    }

    private static void lowestTerms() {
        Due.sentence("Fractions are in lowest terms");
        // of ten: what v and 10 share is gone, be it 2, 5 or both
        long[][] due = {{0, 1}, {1, 10}, {1, 5}, {3, 10}, {2, 5}, {1, 2}, {3, 5}, {7, 10}, {4, 5}, {9, 10}, {1, 1}};
        SorrowSpots x = Due.told("one 5;wind 0 4;");
        x.dab(RED, 3, 0);
        for (int v = 0; v <= 10; v++) {
            Due.is("luck(" + v + ", 0, 1, 0)", x.luck(v, 0, 1, 0), due[v][0]);
            Due.is("luck(" + v + ", 0, 1, 1)", x.luck(v, 0, 1, 1), due[v][1]);
        }
        // 10 SPOTS' worth by one of ten is 1 by 1
        x.alter(0, 0, PIN);
        x.blow(0, 9);
        x.alter(0, 1, 5);
        Due.is("mean(1, 0, 1, 0)", x.mean(1, 0, 1, 0), 1);
        Due.is("mean(1, 0, 1, 1)", x.mean(1, 0, 1, 1), 1);
    }

    private static void fourPeopleAtMost() {
        Due.sentence("PEOPLE 0 on (4 at most, by order)");
        SorrowSpots x = Due.told("one 3;one 9;one 0;one 7;");
        int[] places = {3, 9, 0, 7};
        Due.is("rule(0)", x.rule(0), 4);
        for (int p = 0; p < 4; p++) {
            Due.is("one(" + p + ", 0)", x.one(p, 0), places[p]);
        }
        Due.is("one(4, 0)", x.one(4, 0), BAD);
        Due.is("one(-1, 0)", x.one(-1, 0), BAD);
        Due.is("the 5th", Due.tell(x, "one 1;one 1;one 1;one 1;one 1;"), -34);
        Due.is("rule(0)", x.rule(0), 4);
        Due.is("one(3, 0)", x.one(3, 0), 7);
    }

    private static void placesOfPeople() {
        Due.sentence("a ONE at a PLACE (0 to 9)");
        SorrowSpots x = Due.told("one 0;one 9;");
        Due.is("one(0, 0)", x.one(0, 0), 0);
        Due.is("one(1, 0)", x.one(1, 0), 9);
        Due.is("text() of 10", Due.tell(x, "one 10;"), -14);
        Due.is("walk(0, 9)", x.walk(0, 9), 0);
        Due.is("walk(0, 0)", x.walk(0, 0), 9);
        Due.is("walk(0, 10)", x.walk(0, 10), BAD);
        Due.is("walk(0, -1)", x.walk(0, -1), BAD);
        Due.is("one(0, 0)", x.one(0, 0), 0);
    }

    private static void sixBeetlesAtMost() {
        Due.sentence("BEETLES 0 on (6 at most, by order)");
        SorrowSpots x = Due.told("one 5;red 6 0 1;yellow 5 0 2;orphan 4 0 3;pin 3 0 4;red 2 0 5;pin 1 0 6;");
        int[] kinds = {RED, YELLOW, ORPHAN, PIN, RED, PIN};
        Due.is("rule(1)", x.rule(1), 6);
        for (int b = 0; b < 6; b++) {
            Due.is("beetle(" + b + ", 0)", x.beetle(b, 0), kinds[b]);
            Due.is("beetle(" + b + ", 1)", x.beetle(b, 1), 6 - b);
            Due.is("beetle(" + b + ", 3)", x.beetle(b, 3), b + 1);
        }
        Due.is("beetle(6, 0)", x.beetle(6, 0), BAD);
        Due.is("beetle(-1, 0)", x.beetle(-1, 0), BAD);
        Due.is("dab(0, 1, 0)", x.dab(0, 1, 0), FULL);
        Due.is("rule(1)", x.rule(1), 6);
    }

    private static void sixBeetlesByBoth() {
        Due.sentence("BEETLES 0 on (6 at most): told, dabbed and read ones alike");
        SorrowSpots x = Due.told("one 5;red 6 0 1;red 5 0 2;red 4 0 3;red 3 0 4;");
        x.sheet(0, 0, 6);
        x.lay(0, 1, 1);
        x.lay(0, 4, 1);
        Due.is("dab(3, 1, 0)", x.dab(3, 1, 0), 5);
        Due.is("read(0, 0, 0, 2)", x.read(0, 0, 0, 2), -21);
        Due.is("rule(1)", x.rule(1), 5);
        Due.is("read(0, 0, 0, 1)", x.read(0, 0, 0, 1), 1);
        Due.is("rule(1)", x.rule(1), 6);
        Due.is("read(0, 0, 0, 1)", x.read(0, 0, 0, 1), -20);
        Due.is("dab(3, 1, 0)", x.dab(3, 1, 0), FULL);
    }

    private static void fourKinds() {
        Due.sentence("of a KIND (0 red, 1 yellow, 2 orphan, 3 pin)");
        SorrowSpots x = Due.told("one 5;red 1 0 0;yellow 1 0 0;orphan 1 0 0;pin 1 0 0;");
        for (int k = 0; k < 4; k++) {
            Due.is("beetle(" + k + ", 0)", x.beetle(k, 0), k);
        }
        Due.is("alter(0, 0, 4)", x.alter(0, 0, 4), BAD);
        Due.is("alter(0, 0, -1)", x.alter(0, 0, -1), BAD);
        Due.is("dab(4, 1, 0)", x.dab(4, 1, 0), BAD);
        Due.is("dab(-1, 1, 0)", x.dab(-1, 1, 0), BAD);
        Due.is("alter(0, 0, 3)", x.alter(0, 0, 3), 0);
        Due.is("alter(0, 0, 0)", x.alter(0, 0, 0), 3);
    }

    private static void spotsFromOneToNine() {
        Due.sentence("SPOTS (1 to 9)");
        String[] kinds = {"red", "yellow", "orphan", "pin"};
        for (int k = 0; k < 4; k++) {
            SorrowSpots x = new SorrowSpots();
            int place = kinds[k].length() + 1;
            Due.is(kinds[k] + " of 0", Due.tell(x, kinds[k] + " 0 0 0;one 5;"), -10 - place);
            Due.is("fault()", x.fault(), 3);
            Due.is(kinds[k] + " of 10", Due.tell(x, kinds[k] + " 10 0 0;one 5;"), -10 - place);
            Due.is("fault()", x.fault(), 3);
            Due.is(kinds[k] + " of 1", Due.tell(x, kinds[k] + " 1 0 0;one 5;"), 2);
            Due.is("beetle(0, 1)", x.beetle(0, 1), 1);
            Due.is(kinds[k] + " of 9", Due.tell(x, kinds[k] + " 9 0 0;one 5;"), 2);
            Due.is("beetle(0, 1)", x.beetle(0, 1), 9);
            Due.is("alter(0, 1, 0)", x.alter(0, 1, 0), BAD);
            Due.is("alter(0, 1, 10)", x.alter(0, 1, 10), BAD);
            Due.is("alter(0, 1, 1)", x.alter(0, 1, 1), 9);
            Due.is("alter(0, 1, 9)", x.alter(0, 1, 9), 1);
            Due.is("dab of 0", x.dab(k, 0, 0), BAD);
            Due.is("dab of 10", x.dab(k, 10, 0), BAD);
            Due.is("dab of 1", x.dab(k, 1, 0), 2);
            Due.is("dab of 9", x.dab(k, 9, 0), 3);
            Due.is("count(4)", x.count(4), 19);
        }
    }

    private static void ownersAreOnes() {
        Due.sentence("an OWNER (a ONE)");
        SorrowSpots x = Due.told("one 1;one 2;one 3;red 1 2 0;");
        Due.is("beetle(0, 2)", x.beetle(0, 2), 2);
        Due.is("alter(0, 2, 3)", x.alter(0, 2, 3), BAD);
        Due.is("alter(0, 2, -1)", x.alter(0, 2, -1), BAD);
        Due.is("alter(0, 2, 0)", x.alter(0, 2, 0), 2);
        Due.is("alter(0, 2, 2)", x.alter(0, 2, 2), 0);
        Due.is("dab(0, 1, 3)", x.dab(0, 1, 3), BAD);
        Due.is("dab(0, 1, -1)", x.dab(0, 1, -1), BAD);
        Due.is("dab(0, 1, 2)", x.dab(0, 1, 2), 2);
        Due.is("dab(0, 1, 0)", x.dab(0, 1, 0), 3);
    }

    private static void placesInTheAir() {
        Due.sentence("AT a PLACE in the air (0 to 9)");
        SorrowSpots x = Due.told("one 5;red 1 0 0;red 1 0 9;");
        Due.is("beetle(0, 3)", x.beetle(0, 3), 0);
        Due.is("beetle(1, 3)", x.beetle(1, 3), 9);
        Due.is("text() of 10", Due.tell(x, "red 1 0 10;"), -18);
        Due.is("fault()", x.fault(), 3);
        x.dab(RED, 1, 0);
        Due.is("lift(2, 10)", x.lift(2, 10), BAD);
        Due.is("lift(2, -1)", x.lift(2, -1), BAD);
        Due.is("lift(2, 9)", x.lift(2, 9), 0);
        Due.is("beetle(2, 3)", x.beetle(2, 3), 9);
        x.dab(RED, 1, 0);
        Due.is("lift(3, 0)", x.lift(3, 0), 0);
        Due.is("beetle(3, 3)", x.beetle(3, 3), 0);
    }

    private static void sitsWhereverHeIs() {
        Due.sentence("it SITS on a ONE (AT his PLACE, wherever he is)");
        SorrowSpots x = Due.told("one 5;one 2;");
        x.dab(RED, 1, 0);
        for (int v = 0; v <= 9; v++) {
            x.walk(0, v);
            Due.is("beetle(0, 3)", x.beetle(0, 3), v);
            Due.is("beetle(0, 4)", x.beetle(0, 4), 0);
        }
        x.walk(1, 4);
        Due.is("another walks: beetle(0, 3)", x.beetle(0, 3), 9);
        x.alter(0, 2, 1);
        Due.is("another owns it: beetle(0, 3)", x.beetle(0, 3), 9);
        // in the air it stays where it was left, wherever he goes
        x.lift(0, 7);
        x.walk(0, 0);
        Due.is("in the air: beetle(0, 3)", x.beetle(0, 3), 7);
    }

    private static void sixWinds() {
        Due.sentence("WINDS 0 to 5");
        SorrowSpots x = new SorrowSpots();
        Due.is("wind 6", Due.tell(x, "wind 6 1;"), -15);
        Due.is("fault()", x.fault(), 3);
        Due.is("winds 0 and 5", Due.tell(x, "wind 0 3;wind 5 4;"), 2);
        Due.is("wind(0)", x.wind(0), 3);
        Due.is("wind(5)", x.wind(5), 4);
        Due.is("wind(6)", x.wind(6), BAD);
        Due.is("wind(-1)", x.wind(-1), BAD);
        Due.is("blow(6, 1)", x.blow(6, 1), BAD);
        Due.is("blow(-1, 1)", x.blow(-1, 1), BAD);
        Due.is("blow(5, 1)", x.blow(5, 1), 4);
        Due.is("blow(0, 1)", x.blow(0, 1), 3);
    }

    private static void windsFromNoughtToNine() {
        Due.sentence("WINDS, each 0 to 9");
        SorrowSpots x = new SorrowSpots();
        Due.is("wind 3 10", Due.tell(x, "wind 3 10;"), -17);
        Due.is("fault()", x.fault(), 3);
        Due.is("0 and 9", Due.tell(x, "wind 2 0;wind 3 9;"), 2);
        Due.is("wind(2)", x.wind(2), 0);
        Due.is("wind(3)", x.wind(3), 9);
        Due.is("blow(3, 10)", x.blow(3, 10), BAD);
        Due.is("blow(3, -1)", x.blow(3, -1), BAD);
        Due.is("blow(3, 0)", x.blow(3, 0), 9);
        Due.is("blow(3, 9)", x.blow(3, 9), 0);
    }

    private static void atFirst() {
        Due.sentence("WINDS 0 at first, DAY 0 at first");
        SorrowSpots x = new SorrowSpots();
        Due.is("rule(2)", x.rule(2), 0);
        Due.is("count(5)", x.count(5), 0);
        for (int k = 0; k <= 5; k++) {
            Due.is("wind(" + k + ")", x.wind(k), 0);
        }
    }

    private static void redAndPinSeekTheirOwner() {
        Due.sentence("red its OWNER; pin its OWNER, also the last and the first one");
        SorrowSpots x = Due.told("one 1;one 2;one 3;red 1 2 0;pin 1 2 0;red 1 0 0;pin 1 0 0;");
        int[] sought = {2, 2, 0, 0};
        for (int b = 0; b < 4; b++) {
            Due.is("beetle(" + b + ", 5)", x.beetle(b, 5), sought[b]);
        }
    }

    private static void yellowBehindTheLastTheFirst() {
        Due.sentence("yellow the ONE behind that one by order (behind the last one the first)");
        String people = "";
        for (int last = 0; last <= 3; last++) {
            people += "one " + (9 - last) + ";";
            SorrowSpots x = Due.told(people + "yellow 1 " + last + " 4;");
            Due.is("the last of " + (last + 1) + ": beetle(0, 5)", x.beetle(0, 5), 0);
            for (int owner = 0; owner < last; owner++) {
                x.alter(0, 2, owner);
                Due.is("of " + (last + 1) + " the one " + owner, x.beetle(0, 5), owner + 1);
            }
        }
    }

    private static void orphanSeeksTheFirstOfSeveral() {
        Due.sentence("orphan the ONE who is COUNTED least, of several the first");
        SorrowSpots x = Due.told("one 5;one 5;one 5;one 5;orphan 1 3 0;");
        Due.is("nobody is counted", x.beetle(0, 5), 0);
        for (int p = 0; p < 3; p++) {
            x.dab(RED, 2, p);
            Due.is("counted up to " + p, x.beetle(0, 5), p + 1);
        }
        x.dab(RED, 2, 3);
        Due.is("all alike", x.beetle(0, 5), 0);
        x.alter(3, 1, 1);
        Due.is("the third less", x.beetle(0, 5), 2);
        x.alter(4, 1, 1);
        Due.is("the fourth alike with the third", x.beetle(0, 5), 2);
        x.alter(2, 1, 1);
        Due.is("the second alike too", x.beetle(0, 5), 1);
        Due.is("one alone", Due.told("one 5;orphan 1 0 0;").beetle(0, 5), 0);
    }

    private static void orphanSeeksAsItIsThen() {
        Due.sentence("orphan: whoever owns it, also while it SITS");
        SorrowSpots x = Due.told("one 5;one 5;");
        x.dab(ORPHAN, 3, 0);
        Due.is("it is counted itself", x.beetle(0, 5), 1);
        x.alter(0, 2, 1);
        Due.is("another owns it", x.beetle(0, 5), 1);
        x.dab(PIN, 9, 1);
        Due.is("the other is counted more", x.beetle(0, 5), 0);
    }

    private static void paces() {
        Due.sentence("PACE: red 1; yellow 1 more; orphan 1 less than a yellow; pin three times a red one's; at most");
        int[] paces = {1, 2, 1, 3};
        for (int kind = 0; kind < 4; kind++) {
            for (int from = 0; from <= 9; from++) {
                SorrowSpots x = Due.told("one 4;");
                x.dab(kind, 5, 0);
                x.lift(0, from);
                int way = Math.abs(4 - from);
                int left = Math.max(0, way - paces[kind]);
                int at = from < 4 ? 4 - left : 4 + left;
                Due.is("kind " + kind + " from " + from, x.where(0, 1), left == 0 ? 0 : IN_AIR - at);
                Due.is("home(0)", x.home(0), way == 0 ? 1 : (way + paces[kind] - 1) / paces[kind]);
            }
        }
    }

    private static void weights() {
        Due.sentence("WEIGHT: red as many; yellow half of that (up); orphan 1 more than a yellow; pin twice a red one's");
        int[] halves = {1, 1, 2, 2, 3, 3, 4, 4, 5};
        SorrowSpots x = Due.told("one 4;");
        x.dab(RED, 1, 0);
        for (int spots = 1; spots <= 9; spots++) {
            x.alter(0, 1, spots);
            int half = halves[spots - 1];
            int[] weights = {spots, half, half + 1, 2 * spots};
            for (int kind = 0; kind < 4; kind++) {
                x.alter(0, 0, kind);
                Due.is(spots + " SPOTS of kind " + kind, x.beetle(0, 6), weights[kind]);
                Due.is("one(0, 2)", x.one(0, 2), weights[kind]);
            }
        }
    }

    private static void countedOfNoneAndOfAll() {
        Due.sentence("COUNTED: WEIGHTS of all that SIT on him, summed");
        SorrowSpots x = Due.told("one 4;one 4;");
        Due.is("none: one(0, 2)", x.one(0, 2), 0);
        for (int b = 1; b <= 6; b++) {
            x.dab(PIN, 9, 0);
            Due.is(b + " pins: one(0, 2)", x.one(0, 2), 18 * b);
        }
        Due.is("the other at the same place: one(1, 2)", x.one(1, 2), 0);
        x.lift(5, 4);
        Due.is("in the air at his place: one(0, 2)", x.one(0, 2), 90);
    }
}
