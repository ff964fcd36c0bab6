/** Promises 35 to 41 (EdgesTest). */
final class SheetEdges {
    private static final int BAD = SorrowSpots.BAD;
    private static final int FULL = SorrowSpots.FULL;
    private static final int NONE = SorrowSpots.NONE;
    private static final int STATE = SorrowSpots.STATE;
    private static final int GREATEST = Integer.MAX_VALUE;
    private static final int LEAST = Integer.MIN_VALUE;

    private SheetEdges() {
    }

    static void hold() {
        keepTellsWhetherThereWasOne();
        keepIsWhatWasThen();
        backOfNone();
        backToAll();
        backToWhatWasSeen();
        backTellsTheDay();
        sheetOfNoneToForty();
        sheetIsNewOfNoughts();
        layAtTheEnds();
        layFaults();
        readOfNone();
        readOfThirteen();
        readToTheLastCell();
        readThoseThatWereWhole();
        readWhatTheMachineRefuses();
        readRefusedByDab();
        readTheFirstMet();
        readUpToSix();
        readAsByDab();
        tornOfTheLatestRead();
        tornIsLeft();
        countOfNone();
        countOfAll();
    }

    /** One ONE, and SHEET 0 of BYTES with so many CELLS, of which each row of three is a red one of 1 SPOT. */
    private static SorrowSpots rows(int cells) {
        SorrowSpots x = Due.told("one 5;");
        Due.is("sheet(0, 0, " + cells + ")", x.sheet(0, 0, cells), 1);
        for (int i = 1; i < cells; i += 3) {
            Due.is("lay(0, " + i + ", 1)", x.lay(0, i, 1), 1);
        }
        return x;
    }

    /** What read() answers of SHEET 0, and torn() behind it. */
    private static void reads(SorrowSpots x, int f, int n, int came, int torn) {
        Due.is("read(0, 0, " + f + ", " + n + ")", x.read(0, 0, f, n), came);
        Due.is("torn()", x.torn(), torn);
    }

    private static void keepTellsWhetherThereWasOne() {
        Due.sentence("35 keep(): IMAGE k (0, 1): whether there was one (1, 0). BAD");
        SorrowSpots x = new SorrowSpots();
        Due.is("keep(2)", x.keep(2), BAD);
        Due.is("keep(-1)", x.keep(-1), BAD);
        Due.is("count(1)", x.count(1), 0);
        Due.is("keep(1)", x.keep(1), 0);
        Due.is("keep(1)", x.keep(1), 1);
        Due.is("keep(0)", x.keep(0), 0);
        Due.is("keep(0)", x.keep(0), 1);
        Due.is("count(1)", x.count(1), 2);
        x.back(0);
        Due.is("there still is one: keep(0)", x.keep(0), 1);
        x.text();
        Due.is("gone by a text: keep(0)", x.keep(0), 0);
    }

    private static void keepIsWhatWasThen() {
        Due.sentence("35 keep(): the latest in place of the one before; the other stays");
        SorrowSpots x = Due.told("one 1;");
        x.keep(0);
        x.walk(0, 2);
        x.keep(1);
        x.walk(0, 3);
        x.keep(0);
        x.walk(0, 4);
        x.back(1);
        Due.is("one(0, 0)", x.one(0, 0), 2);
        x.back(0);
        Due.is("one(0, 0)", x.one(0, 0), 3);
    }

    private static void backOfNone() {
        Due.sentence("36 back(): BAD; STATE: there is none");
        SorrowSpots x = Due.told("one 1;");
        Due.is("back(0)", x.back(0), STATE);
        Due.is("back(1)", x.back(1), STATE);
        Due.is("back(2)", x.back(2), BAD);
        Due.is("back(-1)", x.back(-1), BAD);
        x.keep(1);
        x.walk(0, 9);
        Due.is("back(0)", x.back(0), STATE);
        Due.is("one(0, 0)", x.one(0, 0), 9);
        Due.is("back(1)", x.back(1), 0);
        Due.is("one(0, 0)", x.one(0, 0), 1);
        Due.is("as often as wanted: back(1)", x.back(1), 0);
    }

    private static void backToAll() {
        Due.sentence("36 back(): All is as IMAGE k: PEOPLE, BEETLES, WINDS, DAY, what was SEEN");
        SorrowSpots x = Due.told("one 1;one 8;red 2 1 4;wind 5 7;");
        x.dab(2, 3, 0);
        x.see(0, 0, 3);
        x.keep(0);
        x.walk(0, 9);
        x.alter(0, 0, 3);
        x.alter(0, 1, 9);
        x.alter(0, 2, 0);
        x.lift(1, 6);
        x.dab(3, 9, 1);
        x.blow(5, 1);
        x.blow(0, 1);
        x.see(0, 1, 99);
        x.days(4);
        Due.is("back(0)", x.back(0), 0);
        int[][] due = {{0, 2, 1, 4, NONE, 1, 2}, {2, 3, 0, 1, 0, 1, 3}};
        for (int b = 0; b < 2; b++) {
            for (int what = 0; what <= 6; what++) {
                Due.is("beetle(" + b + ", " + what + ")", x.beetle(b, what), due[b][what]);
            }
        }
        int[] rules = {2, 2, 0, 1, 3, 0};
        int[] counts = {1, 1, 0, NONE, 5, 7};
        for (int what = 0; what <= 5; what++) {
            Due.is("rule(" + what + ")", x.rule(what), rules[what]);
            Due.is("count(" + what + ")", x.count(what), counts[what]);
        }
        Due.is("one(0, 0)", x.one(0, 0), 1);
        Due.is("as SEEN: owners(1)", x.owners(1), 3);
        Due.is("beetle(2, 0)", x.beetle(2, 0), BAD);
    }

    private static void backToWhatWasSeen() {
        Due.sentence("36 back(): what was SEEN: each of six, its DAYS, its ONE, how much");
        SorrowSpots x = Due.told("one 0;one 9;pin 4 1 3;");
        // it comes to the second behind 2 days, or would to the first behind 1
        int[][] was = {{2, 1, 8}, {1, 1, 0}, {0, 0, 0}, {20, 1, 8}, {2, 0, 0}, {1, 0, 0}};
        for (int[] w : was) {
            x.see(w[0], w[1], w[2]);
        }
        x.keep(0);
        Due.is("owners(0)", x.owners(0), 2);
        for (int i = 0; i < 6; i++) {
            x.forget(0);
            for (int j = 0; j < 6; j++) {
                int[] w = was[j];
                x.see(j == i ? 3 : w[0], j == i ? 1 - w[1] : w[1], j == i ? w[2] + 1 : w[2]);
            }
            Due.is("another: owners(0)", x.owners(0), 0);
            Due.is("back(0)", x.back(0), 0);
            Due.is("count(0)", x.count(0), 6);
            Due.is("as SEEN: owners(0)", x.owners(0), 2);
        }
        for (int at = 0; at < 3; at++) {
            x.forget(0);
            x.see(at == 0 ? 1 : 2, at == 1 ? 0 : 1, at == 2 ? 9 : 8);
            Due.is("one number is another: owners(0)", x.owners(0) & 2, 0);
            x.back(0);
            Due.is("as SEEN: owners(0)", x.owners(0), 2);
        }
    }

    private static void backTellsTheDay() {
        Due.sentence("36 back(): DAY (0 to 999)");
        SorrowSpots x = new SorrowSpots();
        x.keep(0);
        for (int i = 0; i < 33; i++) {
            x.days(30);
        }
        x.days(9);
        x.keep(1);
        Due.is("back(0)", x.back(0), 0);
        Due.is("rule(2)", x.rule(2), 0);
        Due.is("days(1)", x.days(1), 0);
        Due.is("back(1)", x.back(1), 999);
        Due.is("days(1)", x.days(1), SorrowSpots.FULL);
    }

    private static void sheetOfNoneToForty() {
        Due.sentence("37 sheet(): 1. BAD: also n above 40; -14 (SIZE): n below 0");
        SorrowSpots x = new SorrowSpots();
        for (int k = 0; k <= 3; k++) {
            for (int lane = 0; lane <= 2; lane++) {
                Due.is("sheet(" + k + ", " + lane + ", 40)", x.sheet(k, lane, 40), 1);
                Due.is("sheet(" + k + ", " + lane + ", 41)", x.sheet(k, lane, 41), BAD);
                Due.is("sheet(" + k + ", " + lane + ", -1)", x.sheet(k, lane, -1), -14);
                Due.is("it stays: lay(" + k + ", 39, 1)", x.lay(k, 39, 1), 1);
                Due.is("sheet(" + k + ", " + lane + ", 0)", x.sheet(k, lane, 0), 1);
                Due.is("lay(" + k + ", 0, 1)", x.lay(k, 0, 1), -12);
            }
        }
        Due.is("sheet(0, 0, greatest)", x.sheet(0, 0, GREATEST), BAD);
        Due.is("sheet(0, 0, least)", x.sheet(0, 0, LEAST), -14);
        Due.is("sheet(4, 0, 1)", x.sheet(4, 0, 1), BAD);
        Due.is("sheet(-1, 0, 1)", x.sheet(-1, 0, 1), BAD);
        Due.is("sheet(0, 3, 1)", x.sheet(0, 3, 1), BAD);
        Due.is("sheet(0, -1, 1)", x.sheet(0, -1, 1), BAD);
        Due.is("count(3)", x.count(3), 0);
    }

    private static void sheetIsNewOfNoughts() {
        Due.sentence("37 sheet(): A SHEET is a new row of CELLS 0, of which nothing is left from before");
        SorrowSpots x = Due.told("one 5;one 6;");
        for (int lane = 0; lane <= 2; lane++) {
            x.sheet(0, lane, 40);
            for (int i = 0; i < 40; i++) {
                x.lay(0, i, 1);
            }
            x.sheet(0, lane, 40);
            for (int f = 0; f <= 37; f += 3) {
                // a red one of no SPOTS
                Due.is("read(0, " + lane + ", " + f + ", 1)", x.read(0, lane, f, 1), -20);
            }
            x.lay(0, 38, 1);
            Due.is("read(0, " + lane + ", 37, 1)", x.read(0, lane, 37, 1), 1);
            Due.is("beetle(" + lane + ", 0)", x.beetle(lane, 0), 0);
            Due.is("beetle(" + lane + ", 2)", x.beetle(lane, 2), 0);
        }
        x.sheet(0, 0, 3);
        Due.is("count(3)", x.count(3), 3);
    }

    private static void layAtTheEnds() {
        Due.sentence("38 lay(): CELL i of a SHEET becomes v: 1. BAD: k");
        SorrowSpots x = Due.told("one 5;");
        x.sheet(3, 2, 40);
        Due.is("lay(3, 0, 2)", x.lay(3, 0, 2), 1);
        Due.is("lay(3, 1, 8)", x.lay(3, 1, 8), 1);
        Due.is("lay(3, 38, 7)", x.lay(3, 38, 7), 1);
        Due.is("lay(3, 39, 0)", x.lay(3, 39, 0), 1);
        Due.is("lay(4, 0, 1)", x.lay(4, 0, 1), BAD);
        Due.is("lay(-1, 0, 1)", x.lay(-1, 0, 1), BAD);
        Due.is("the first row: read(3, 2, 0, 1)", x.read(3, 2, 0, 1), 1);
        Due.is("beetle(0, 0)", x.beetle(0, 0), 2);
        Due.is("beetle(0, 1)", x.beetle(0, 1), 8);
        Due.is("the last row: read(3, 2, 37, 1)", x.read(3, 2, 37, 1), 1);
        Due.is("beetle(1, 1)", x.beetle(1, 1), 7);
        Due.is("the latest: lay(3, 1, 9)", x.lay(3, 1, 9), 1);
        Due.is("read(3, 2, 0, 1)", x.read(3, 2, 0, 1), 1);
        Due.is("beetle(2, 1)", x.beetle(2, 1), 9);
    }

    private static void layFaults() {
        Due.sentence("38 lay(): -10 less the FAULT: NULL, INDEX");
        SorrowSpots x = new SorrowSpots();
        for (int k = 0; k <= 3; k++) {
            Due.is("lay(" + k + ", 0, 1)", x.lay(k, 0, 1), -11);
            Due.is("lay(" + k + ", 40, 1)", x.lay(k, 40, 1), -11);
            x.sheet(k, k % 3, k);
            Due.is("lay(" + k + ", " + k + ", 1)", x.lay(k, k, 1), -12);
            Due.is("lay(" + k + ", -1, 1)", x.lay(k, -1, 1), -12);
            Due.is("lay(" + k + ", greatest, 1)", x.lay(k, GREATEST, 1), -12);
            Due.is("lay(" + k + ", least, 1)", x.lay(k, LEAST, 1), -12);
            Due.is("lay(" + k + ", " + (k - 1) + ", 1)", x.lay(k, k - 1, 1), k == 0 ? -12 : 1);
        }
        Due.is("it is no read(): torn()", x.torn(), 0);
    }

    private static void readOfNone() {
        Due.sentence("39 read(): of n 0: 0, no FAULT, whatever the SHEET is");
        SorrowSpots x = rows(3);
        for (int f : new int[] {0, -1, 1, 3, 40, GREATEST, LEAST}) {
            Due.is("nothing: read(1, 0, " + f + ", 1)", x.read(1, 0, f, 1), 0);
            Due.is("torn()", x.torn(), 1);
            Due.is("nothing: read(1, 0, " + f + ", 0)", x.read(1, 0, f, 0), 0);
            Due.is("torn()", x.torn(), 0);
            Due.is("another lane: read(0, 2, " + f + ", 1)", x.read(0, 2, f, 1), 0);
            Due.is("torn()", x.torn(), 3);
            Due.is("another lane: read(0, 2, " + f + ", 0)", x.read(0, 2, f, 0), 0);
            Due.is("torn()", x.torn(), 0);
            reads(x, f, 0, 0, 0);
        }
        Due.is("rule(1)", x.rule(1), 0);
        Due.is("read(4, 0, 0, 0)", x.read(4, 0, 0, 0), BAD);
        Due.is("read(0, 3, 0, 0)", x.read(0, 3, 0, 0), BAD);
        Due.is("read(0, 0, 0, -1)", x.read(0, 0, 0, -1), BAD);
    }

    private static void readOfThirteen() {
        Due.sentence("39 read(): n (0 to 13) times");
        SorrowSpots x = rows(40);
        // 39 cells are 13 rows: but the 7th is one too many
        Due.is("read(0, 0, 0, 13)", x.read(0, 0, 0, 13), -26);
        Due.is("read(0, 0, 0, 14)", x.read(0, 0, 0, 14), BAD);
        Due.is("rule(1)", x.rule(1), 0);
        reads(x, 36, 13, 1, 2);
        SorrowSpots y = rows(18);
        reads(y, 0, 13, 6, 2);
        Due.is("rule(1)", y.rule(1), 6);
    }

    private static void readToTheLastCell() {
        Due.sentence("39 read(): three CELLS each from CELL f on, one behind another, to the last one");
        SorrowSpots x = rows(40);
        x.lay(0, 38, 4);
        reads(x, 37, 1, 1, 0);
        Due.is("beetle(0, 1)", x.beetle(0, 1), 4);
        reads(x, 38, 1, 0, 2);
        reads(x, 34, 2, -20, 2);
        x.lay(0, 34, 0);
        x.lay(0, 35, 5);
        x.lay(0, 36, 0);
        x.lay(0, 37, 0);
        reads(x, 34, 2, 2, 0);
        Due.is("beetle(1, 1)", x.beetle(1, 1), 5);
        Due.is("beetle(2, 1)", x.beetle(2, 1), 4);
        SorrowSpots y = rows(3);
        reads(y, 0, 1, 1, 0);
        reads(y, 1, 1, 0, 2);
        SorrowSpots z = rows(2);
        reads(z, 0, 1, 0, 2);
    }

    private static void readThoseThatWereWhole() {
        Due.sentence("39 read(): What the machine refuses: those that were whole ahead came");
        for (int cells = 0; cells <= 8; cells++) {
            SorrowSpots x = rows(cells);
            reads(x, 0, 3, cells / 3, 2);
            Due.is("rule(1)", x.rule(1), cells / 3);
            Due.is("rule(3)", x.rule(3), cells / 3);
        }
        SorrowSpots nine = rows(9);
        reads(nine, 0, 3, 3, 0);
    }

    private static void readWhatTheMachineRefuses() {
        Due.sentence("39 read(): (its FAULT is asked by torn()): 1 NULL, 2 INDEX, 3 CAST");
        SorrowSpots x = rows(9);
        for (int lane = 0; lane <= 2; lane++) {
            Due.is("read(1, " + lane + ", 0, 13)", x.read(1, lane, 0, 13), 0);
            Due.is("torn()", x.torn(), 1);
        }
        for (int f : new int[] {-1, -3, LEAST, 7, 8, 9, 10, GREATEST, GREATEST - 1, GREATEST - 2, GREATEST - 36}) {
            reads(x, 0, 0, 0, 0);
            reads(x, f, 13, 0, 2);
        }
        for (int lane = 1; lane <= 2; lane++) {
            Due.is("read(0, " + lane + ", 0, 1)", x.read(0, lane, 0, 1), 0);
            Due.is("torn()", x.torn(), 3);
        }
        Due.is("rule(1)", x.rule(1), 0);
    }

    private static void readRefusedByDab() {
        Due.sentence("39 read(): -20 less i: the i-th (from 0 on), whole, is refused by dab() (in whichever way): then none came");
        int[][] wrong = {{0, -1}, {0, 4}, {1, 0}, {1, 10}, {1, -1}, {2, -1}, {2, 1}};
        for (int i = 0; i < 3; i++) {
            for (int[] w : wrong) {
                SorrowSpots x = rows(9);
                x.lay(0, 3 * i + w[0], w[1]);
                reads(x, 0, 3, -20 - i, 0);
                Due.is("rule(1)", x.rule(1), 0);
                reads(x, 0, i, i, 0);
                reads(x, 3 * i, 1, -20, 0);
                Due.is("rule(1)", x.rule(1), i);
            }
        }
        SorrowSpots nobody = new SorrowSpots();
        nobody.sheet(0, 0, 3);
        nobody.lay(0, 1, 1);
        reads(nobody, 0, 1, -20, 0);
    }

    private static void readTheFirstMet() {
        Due.sentence("39 read(): the first met");
        SorrowSpots x = rows(8);
        x.lay(0, 1, 0);
        x.lay(0, 4, 0);
        reads(x, 0, 3, -20, 0);
        x.lay(0, 1, 1);
        reads(x, 0, 3, -21, 0);
        x.lay(0, 4, 1);
        // the third is not whole, and has no SPOTS that would do
        x.lay(0, 7, 0);
        reads(x, 0, 3, 2, 2);
        reads(x, 6, 1, 0, 2);
    }

    private static void readUpToSix() {
        Due.sentence("39 read(): refused by dab(): FULL, too");
        for (int ahead = 0; ahead <= 6; ahead++) {
            SorrowSpots x = rows(21);
            for (int b = 0; b < ahead; b++) {
                x.dab(0, 1, 0);
            }
            int room = 6 - ahead;
            reads(x, 0, room + 1, -20 - room, 0);
            Due.is("rule(1)", x.rule(1), ahead);
            reads(x, 0, room, room, 0);
            Due.is("rule(1)", x.rule(1), 6);
            reads(x, 0, 1, -20, 0);
            Due.is("not whole: the machine finds it first", x.read(0, 0, 19, 1), 0);
            Due.is("torn()", x.torn(), 2);
        }
    }

    private static void readAsByDab() {
        Due.sentence("39 read(): as by dab(): a BEETLE more, that SITS on its OWNER");
        SorrowSpots x = Due.told("one 5;one 8;red 1 0 0;");
        x.sheet(2, 1, 6);
        int[] cells = {1, 9, 1, 3, 1, 0};
        for (int i = 0; i < 6; i++) {
            x.lay(2, i, cells[i]);
        }
        Due.is("read(2, 1, 0, 2)", x.read(2, 1, 0, 2), 2);
        int[][] due = {{1, 9, 1, 8, 1, 0, 5}, {3, 1, 0, 5, 0, 0, 2}};
        for (int b = 0; b < 2; b++) {
            for (int what = 0; what <= 6; what++) {
                Due.is("beetle(" + (b + 1) + ", " + what + ")", x.beetle(b + 1, what), due[b][what]);
            }
        }
    }

    private static void tornOfTheLatestRead() {
        Due.sentence("40 torn(): The FAULT of the latest read() that answered 0 or more; 0");
        SorrowSpots x = rows(3);
        Due.is("ahead of any read(): torn()", x.torn(), 0);
        reads(x, 1, 1, 0, 2);
        x.read(1, 0, 0, 1);
        Due.is("torn()", x.torn(), 1);
        x.read(0, 1, 0, 1);
        Due.is("torn()", x.torn(), 3);
        reads(x, 0, 1, 1, 0);
        reads(x, 0, 2, 1, 2);
        x.lay(2, 0, 0);
        x.sheet(2, 0, -1);
        x.text();
        x.keep(0);
        x.back(0);
        Due.is("no other call changes it: torn()", x.torn(), 2);
    }

    private static void tornIsLeft() {
        Due.sentence("40 torn(): (one that is refused leaves it)");
        for (int fault = 0; fault <= 3; fault++) {
            SorrowSpots x = rows(6);
            x.lay(0, 4, 0);
            int came = fault == 0 ? x.read(0, 0, 0, 1) : fault == 1 ? x.read(1, 0, 0, 1)
                    : fault == 2 ? x.read(0, 0, 4, 1) : x.read(0, 1, 0, 1);
            Due.is("a read() that is answered", came, fault == 0 ? 1 : 0);
            Due.is("torn()", x.torn(), fault);
            Due.is("read(4, 0, 0, 1)", x.read(4, 0, 0, 1), BAD);
            Due.is("read(0, 3, 0, 1)", x.read(0, 3, 0, 1), BAD);
            Due.is("read(0, 0, 0, 14)", x.read(0, 0, 0, 14), BAD);
            Due.is("read(0, 0, 0, 2)", x.read(0, 0, 0, 2), -21);
            Due.is("torn()", x.torn(), fault);
        }
    }

    private static void countOfNone() {
        Due.sentence("41 count(): none of any; 3 CELLS of SHEET 0 (NONE: nothing). BAD");
        SorrowSpots x = new SorrowSpots();
        int[] due = {0, 0, 0, NONE, 0, 0};
        for (int what = 0; what <= 5; what++) {
            Due.is("count(" + what + ")", x.count(what), due[what]);
        }
        x.sheet(1, 0, 9);
        Due.is("of SHEET 0 alone: count(3)", x.count(3), NONE);
        x.sheet(0, 0, 0);
        Due.is("no CELLS are not nothing: count(3)", x.count(3), 0);
        for (int what : new int[] {-1, 6, LEAST, GREATEST}) {
            Due.is("count(" + what + ")", x.count(what), BAD);
        }
    }

    private static void countOfAll() {
        Due.sentence("41 count(): all there may be: 6 SEEN, 2 IMAGES, 160 bytes, 40 CELLS, 54 SPOTS, WINDS of 54");
        SorrowSpots x = Due.told("one0;wind0 9;wind1 9;wind2 9;wind3 9;wind4 9;wind5 9;");
        for (int i = 0; i < 6; i++) {
            x.see(0, 0, 0);
            x.dab(i % 4, 9, 0);
        }
        x.lift(5, 0);
        x.keep(0);
        x.keep(1);
        x.sheet(0, 2, 40);
        for (int i = 0; i < 161; i++) {
            x.feed(32);
        }
        int[] due = {6, 2, 160, 40, 54, 54};
        for (int what = 0; what <= 5; what++) {
            Due.is("count(" + what + ")", x.count(what), due[what]);
        }
        Due.is("dab(0, 1, 0)", x.dab(0, 1, 0), FULL);
    }
}
