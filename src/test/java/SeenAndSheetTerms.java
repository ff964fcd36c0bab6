/** "Terms" on what is SEEN and on SHEETS (TermsTest). */
final class SeenAndSheetTerms {
    private static final int BAD = SorrowSpots.BAD;
    private static final int FULL = SorrowSpots.FULL;
    private static final int NONE = SorrowSpots.NONE;

    private SeenAndSheetTerms() {
    }

    static void hold() {
        sixAreSeen();
        behindNoughtToTwentyDays();
        fromWhenItIsAsked();
        countedSoMany();
        fourSheets();
        lanes();
        noCellsToForty();
        nothingAtFirst();
        lowestBitsOfBytes();
        lowestBitsOfShorts();
        allBitsOfInts();
        null1();
        index2();
        cast3();
        size4();
    }

    private static void sixAreSeen() {
        Due.sentence("SEEN (6)");
        SorrowSpots x = Due.told("one 5;red 4 0 5;");
        for (int i = 1; i <= 6; i++) {
            Due.is("see(" + i + ", 0, 4)", x.see(i, 0, 4), i);
        }
        Due.is("the 7th: see(7, 0, 4)", x.see(7, 0, 4), FULL);
        Due.is("the 7th, that would be wrong: see(7, 0, 5)", x.see(7, 0, 5), FULL);
        Due.is("count(0)", x.count(0), 6);
        Due.is("owners(0)", x.owners(0), 1);
        x.forget(5);
        Due.is("the 6th is held like the others: see(7, 0, 5)", x.see(7, 0, 5), 6);
        Due.is("owners(0)", x.owners(0), 0);
    }

    private static void behindNoughtToTwentyDays() {
        Due.sentence("SEEN: behind n DAYS (0 to 20)");
        // off on day 18 (to 9, 2 away) and there again behind day 19: it sits behind 18 and 20 days, not 19
        SorrowSpots x = Due.told("one 7;wind 0 9;");
        x.dab(0, 4, 0);
        int[][] due = {{0, 4}, {18, 4}, {19, 0}, {20, 4}};
        for (int[] d : due) {
            x.forget(0);
            Due.is("see(" + d[0] + ", 0, " + d[1] + ")", x.see(d[0], 0, d[1]), 1);
            Due.is("owners(0)", x.owners(0), 1);
            x.forget(0);
            x.see(d[0], 0, 4 - d[1]);
            Due.is("owners(0), the other way", x.owners(0), 0);
        }
        Due.is("see(21, 0, 4)", x.see(21, 0, 4), BAD);
        Due.is("see(-1, 0, 4)", x.see(-1, 0, 4), BAD);
    }

    private static void fromWhenItIsAsked() {
        Due.sentence("SEEN: from when it is asked (what goes on between does not make n less)");
        SorrowSpots x = Due.told("one 1;one 9;red 4 0 6;");
        x.see(5, 0, 4);
        x.see(4, 0, 0);
        Due.is("owners(0)", x.owners(0), 1);
        x.days(1);
        Due.is("a day later it is 4 away: owners(0)", x.owners(0), 0);
        x.walk(0, 0);
        Due.is("5 away again: owners(0)", x.owners(0), 1);
        // 0 days are now
        x.forget(0);
        x.see(0, 0, 4);
        Due.is("in the air: owners(0)", x.owners(0), 0);
        x.days(5);
        Due.is("it sits: owners(0)", x.owners(0), 3);
    }

    private static void countedSoMany() {
        Due.sentence("SEEN: a ONE is COUNTED so many (neither more nor less)");
        SorrowSpots x = Due.told("one 5;");
        x.dab(3, 9, 0);
        for (int v = 17; v <= 19; v++) {
            x.forget(0);
            x.see(0, 0, v);
            Due.is("18 seen as " + v, x.owners(0), v == 18 ? 1 : 0);
        }
    }

    private static void fourSheets() {
        Due.sentence("SHEETS 0 to 3");
        SorrowSpots x = new SorrowSpots();
        for (int k = 0; k <= 3; k++) {
            Due.is("sheet(" + k + ", 0, " + (k + 1) + ")", x.sheet(k, 0, k + 1), 1);
        }
        for (int k = 0; k <= 3; k++) {
            Due.is("each of its own: lay(" + k + ", " + k + ", 0)", x.lay(k, k, 0), 1);
            Due.is("each of its own: lay(" + k + ", " + (k + 1) + ", 0)", x.lay(k, k + 1, 0), -12);
        }
        Due.is("sheet(4, 0, 1)", x.sheet(4, 0, 1), BAD);
        Due.is("sheet(-1, 0, 1)", x.sheet(-1, 0, 1), BAD);
        Due.is("lay(4, 0, 0)", x.lay(4, 0, 0), BAD);
        Due.is("lay(-1, 0, 0)", x.lay(-1, 0, 0), BAD);
        Due.is("read(4, 0, 0, 1)", x.read(4, 0, 0, 1), BAD);
        Due.is("read(-1, 0, 0, 1)", x.read(-1, 0, 0, 1), BAD);
    }

    private static void lanes() {
        Due.sentence("BYTES (lane 0), SHORTS (1), INTS (2)");
        SorrowSpots x = Due.told("one 5;");
        Due.is("sheet(0, 3, 1)", x.sheet(0, 3, 1), BAD);
        Due.is("sheet(0, -1, 1)", x.sheet(0, -1, 1), BAD);
        for (int lane = 0; lane <= 2; lane++) {
            Due.is("sheet(0, " + lane + ", 3)", x.sheet(0, lane, 3), 1);
            x.lay(0, 1, 1);
            for (int as = 0; as <= 2; as++) {
                Due.is("lane " + lane + " as " + as, x.read(0, as, 0, 1), as == lane ? 1 : 0);
                Due.is("torn()", x.torn(), as == lane ? 0 : 3);
            }
        }
    }

    private static void noCellsToForty() {
        Due.sentence("SHEETS: with 0 to 40 CELLS");
        SorrowSpots x = new SorrowSpots();
        for (int lane = 0; lane <= 2; lane++) {
            Due.is("sheet(0, " + lane + ", 0)", x.sheet(0, lane, 0), 1);
            Due.is("count(3)", x.count(3), 0);
            Due.is("lay(0, 0, 1)", x.lay(0, 0, 1), -12);
            Due.is("sheet(0, " + lane + ", 40)", x.sheet(0, lane, 40), 1);
            Due.is("count(3)", x.count(3), 40);
            Due.is("lay(0, 39, 1)", x.lay(0, 39, 1), 1);
            Due.is("lay(0, 40, 1)", x.lay(0, 40, 1), -12);
            Due.is("sheet(0, " + lane + ", 41)", x.sheet(0, lane, 41), BAD);
            Due.is("it stays: count(3)", x.count(3), 40);
        }
    }

    private static void nothingAtFirst() {
        Due.sentence("SHEETS: or nothing (at first)");
        SorrowSpots x = Due.told("one 5;");
        Due.is("count(3)", x.count(3), NONE);
        for (int k = 0; k <= 3; k++) {
            Due.is("lay(" + k + ", 0, 0)", x.lay(k, 0, 0), -11);
            for (int lane = 0; lane <= 2; lane++) {
                Due.is("read(" + k + ", " + lane + ", 0, 1)", x.read(k, lane, 0, 1), 0);
                Due.is("torn()", x.torn(), 1);
            }
        }
        // no CELLS are not nothing
        x.sheet(0, 0, 0);
        Due.is("count(3)", x.count(3), 0);
        Due.is("lay(0, 0, 0)", x.lay(0, 0, 0), -12);
    }

    /** Whether a value laid into a SHEET of a lane is read as so many SPOTS (0: it is no such number). */
    private static void laid(int lane, int v, int spots) {
        SorrowSpots x = Due.told("one 5;");
        x.sheet(0, lane, 3);
        x.lay(0, 1, v);
        Due.is("lane " + lane + ", " + v, x.read(0, lane, 0, 1), spots > 0 ? 1 : -20);
        Due.is("lane " + lane + ", " + v + ": SPOTS", x.beetle(0, 1), spots > 0 ? spots : BAD);
    }

    private static void lowestBitsOfBytes() {
        Due.sentence("BYTES, with a sign: a CELL's lowest 8 bits");
        laid(0, 9, 9);
        laid(0, 10, 0);
        laid(0, 256, 0);
        laid(0, 257, 1);
        laid(0, 265, 9);
        laid(0, 266, 0);
        laid(0, 127, 0);
        laid(0, 128, 0);
        laid(0, 255, 0);
        laid(0, -1, 0);
        laid(0, -251, 5);
        laid(0, 0x12345604, 4);
        laid(0, Integer.MIN_VALUE + 7, 7);
        laid(0, Integer.MAX_VALUE, 0);
    }

    private static void lowestBitsOfShorts() {
        Due.sentence("SHORTS, with a sign: a CELL's lowest 16 bits");
        laid(1, 9, 9);
        laid(1, 257, 0);
        laid(1, 32767, 0);
        laid(1, 32768, 0);
        laid(1, 65535, 0);
        laid(1, 65536, 0);
        laid(1, 65537, 1);
        laid(1, 65545, 9);
        laid(1, 65546, 0);
        laid(1, -65531, 5);
        laid(1, 0x12340004, 4);
        laid(1, 0x12340104, 0);
        laid(1, Integer.MIN_VALUE + 7, 7);
    }

    private static void allBitsOfInts() {
        Due.sentence("INTS, with a sign: all of a CELL's bits");
        laid(2, 9, 9);
        laid(2, 1, 1);
        laid(2, 257, 0);
        laid(2, 65537, 0);
        laid(2, Integer.MIN_VALUE + 7, 0);
        laid(2, Integer.MIN_VALUE, 0);
        laid(2, Integer.MAX_VALUE, 0);
    }

    private static void null1() {
        Due.sentence("A FAULT: 1 NULL (nothing), ahead of all others");
        SorrowSpots x = Due.told("one 5;");
        Due.is("lay(0, -1, 0)", x.lay(0, -1, 0), -11);
        Due.is("lay(0, 40, 0)", x.lay(0, 40, 0), -11);
        Due.is("read(0, 2, -1, 1)", x.read(0, 2, -1, 1), 0);
        Due.is("torn()", x.torn(), 1);
    }

    private static void index2() {
        Due.sentence("A FAULT: 2 INDEX");
        SorrowSpots x = Due.told("one 5;");
        x.sheet(0, 0, 5);
        x.lay(0, 3, 1);
        int[] past = {-1, Integer.MIN_VALUE, 5, 6, Integer.MAX_VALUE};
        for (int i : past) {
            Due.is("lay(0, " + i + ", 0)", x.lay(0, i, 0), -12);
        }
        int[] begins = {-1, Integer.MIN_VALUE, 3, 4, 5, 6, Integer.MAX_VALUE, Integer.MAX_VALUE - 2};
        for (int f : begins) {
            x.read(0, 0, 0, 0);
            Due.is("read(0, 0, " + f + ", 1)", x.read(0, 0, f, 1), 0);
            Due.is("torn()", x.torn(), 2);
        }
        // the last three CELLS are whole
        Due.is("read(0, 0, 2, 1)", x.read(0, 0, 2, 1), 1);
        Due.is("torn()", x.torn(), 0);
    }

    private static void cast3() {
        Due.sentence("A FAULT: 3 CAST (another lane), ahead of the CELLS");
        SorrowSpots x = Due.told("one 5;");
        x.sheet(0, 1, 3);
        x.sheet(1, 1, 0);
        Due.is("read(0, 0, 0, 1)", x.read(0, 0, 0, 1), 0);
        Due.is("torn()", x.torn(), 3);
        Due.is("read(0, 2, -1, 13)", x.read(0, 2, -1, 13), 0);
        Due.is("torn()", x.torn(), 3);
        Due.is("no CELLS: read(1, 2, 0, 1)", x.read(1, 2, 0, 1), 0);
        Due.is("torn()", x.torn(), 3);
        Due.is("no CELLS, its lane: read(1, 1, 0, 1)", x.read(1, 1, 0, 1), 0);
        Due.is("torn()", x.torn(), 2);
    }

    private static void size4() {
        Due.sentence("A FAULT: 4 SIZE (below 0)");
        SorrowSpots x = new SorrowSpots();
        Due.is("sheet(0, 0, -1)", x.sheet(0, 0, -1), -14);
        Due.is("sheet(0, 2, least)", x.sheet(0, 2, Integer.MIN_VALUE), -14);
        Due.is("count(3)", x.count(3), NONE);
        Due.is("sheet(0, 0, 0)", x.sheet(0, 0, 0), 1);
        Due.is("sheet(0, 0, -1)", x.sheet(0, 0, -1), -14);
        Due.is("count(3)", x.count(3), 0);
    }
}
