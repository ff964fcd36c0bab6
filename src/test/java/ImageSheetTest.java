/** Promises 35 to 41: images, sheets, and how many there are. */
public final class ImageSheetTest {
    private static final int LEAST = -2147483648;
    private static final int GREATEST = 2147483647;

    public static void main(String[] args) {
        keep();
        back();
        backToWhatWasSeen();
        sheet();
        lay();
        laidByLanes();
        read();
        readFaults();
        readRefused();
        readOfFull();
        torn();
        count();
        Due.end("ImageSheetTest");
    }

    private static void keep() {
        SorrowSpots x = Due.told("one 3;");
        Due.is("keep(-1)", x.keep(-1), SorrowSpots.BAD);
        Due.is("keep(2)", x.keep(2), SorrowSpots.BAD);
        Due.is("keep(0)", x.keep(0), 0);
        Due.is("keep(0)", x.keep(0), 1);
        Due.is("keep(1)", x.keep(1), 0);
        Due.is("keep(1)", x.keep(1), 1);
        Due.is("count(1)", x.count(1), 2);
    }

    private static void back() {
        SorrowSpots x = Due.told("one 3;red 4 0 9;wind 0 2;wind 5 5;");
        Due.is("back(-1)", x.back(-1), SorrowSpots.BAD);
        Due.is("back(2)", x.back(2), SorrowSpots.BAD);
        Due.is("back(0)", x.back(0), SorrowSpots.STATE);
        Due.is("back(1)", x.back(1), SorrowSpots.STATE);
        x.days(2);
        x.dab(3, 9, 0);
        x.see(1, 0, 18);
        x.keep(1);
        Due.is("back(0)", x.back(0), SorrowSpots.STATE);
        x.days(3);
        x.walk(0, 8);
        x.alter(0, 0, 3);
        x.alter(0, 1, 1);
        x.lift(1, 0);
        x.dab(0, 1, 0);
        x.blow(5, 6);
        x.see(2, 0, 18);
        x.sheet(0, 0, 5);
        x.feed(32);
        x.keep(0);
        Due.is("back(1): its day", x.back(1), 2);
        Due.is("rule(1)", x.rule(1), 2);
        Due.is("rule(2)", x.rule(2), 2);
        Due.is("one(0, 0)", x.one(0, 0), 3);
        Due.is("one(0, 1)", x.one(0, 1), 2);
        int[] due = {0, 4, 0, 7, SorrowSpots.NONE};
        for (int what = 0; what < due.length; what++) {
            Due.is("beetle(0, " + what + ")", x.beetle(0, what), due[what]);
        }
        Due.is("wind(5)", x.wind(5), 5);
        Due.is("count(0)", x.count(0), 1);
        Due.is("owners(1)", x.owners(1), 1);
        Due.is("the tape stays: count(2)", x.count(2), 1);
        Due.is("the sheets stay: count(3)", x.count(3), 5);
        Due.is("images stay: count(1)", x.count(1), 2);
        x.walk(0, 0);
        x.forget(0);
        x.see(0, 0, 99);
        Due.is("owners(1): not as seen", x.owners(1), 0);
        Due.is("an image is what was, not what is: back(1)", x.back(1), 2);
        Due.is("owners(1)", x.owners(1), 1);
        Due.is("one(0, 0)", x.one(0, 0), 3);
        Due.is("count(0)", x.count(0), 1);
        Due.is("back(0)", x.back(0), 5);
        Due.is("one(0, 0)", x.one(0, 0), 8);
        Due.is("rule(1)", x.rule(1), 3);
        Due.is("count(0)", x.count(0), 2);
    }

    private static void backToWhatWasSeen() {
        // the pin lands behind 2 days on the second one: all three numbers of what was seen matter
        SorrowSpots x = Due.told("one 0;one 9;pin 4 1 4;");
        x.see(2, 1, 8);
        x.keep(0);
        Due.is("owners(0)", x.owners(0), 2);
        int[][] others = {{1, 1, 8}, {2, 0, 8}, {2, 1, 0}};
        for (int[] o : others) {
            x.forget(0);
            x.see(o[0], o[1], o[2]);
            Due.is("owners(0), other things seen", x.owners(0) == 2 ? 1 : 0, 0);
            x.back(0);
            Due.is("owners(0)", x.owners(0), 2);
        }
    }

    private static void sheet() {
        SorrowSpots x = new SorrowSpots();
        Due.is("sheet(-1, 0, 0)", x.sheet(-1, 0, 0), SorrowSpots.BAD);
        Due.is("sheet(4, 0, 0)", x.sheet(4, 0, 0), SorrowSpots.BAD);
        Due.is("sheet(0, -1, 0)", x.sheet(0, -1, 0), SorrowSpots.BAD);
        Due.is("sheet(0, 3, 0)", x.sheet(0, 3, 0), SorrowSpots.BAD);
        Due.is("sheet(0, 0, 41)", x.sheet(0, 0, 41), SorrowSpots.BAD);
        Due.is("sheet(0, 0, greatest)", x.sheet(0, 0, GREATEST), SorrowSpots.BAD);
        Due.is("sheet(0, 0, -1)", x.sheet(0, 0, -1), -14);
        Due.is("sheet(0, 0, least)", x.sheet(0, 0, LEAST), -14);
        Due.is("sheet(4, 0, -1): the first that fits", x.sheet(4, 0, -1), SorrowSpots.BAD);
        Due.is("sheet(0, 3, -1): the first that fits", x.sheet(0, 3, -1), SorrowSpots.BAD);
        Due.is("still nothing: count(3)", x.count(3), SorrowSpots.NONE);
        Due.is("sheet(0, 2, 40)", x.sheet(0, 2, 40), 1);
        Due.is("count(3)", x.count(3), 40);
        Due.is("sheet(0, 2, -1)", x.sheet(0, 2, -1), -14);
        Due.is("it stays: count(3)", x.count(3), 40);
        Due.is("sheet(0, 1, 0)", x.sheet(0, 1, 0), 1);
        Due.is("count(3)", x.count(3), 0);
        Due.is("sheet(3, 1, 2)", x.sheet(3, 1, 2), 1);
        Due.is("count(3) is of sheet 0", x.count(3), 0);
        // a new row: all 0 again
        Due.tell(x, "one 3;");
        x.sheet(1, 2, 3);
        x.lay(1, 1, 5);
        Due.is("read(1, 2, 0, 1)", x.read(1, 2, 0, 1), 1);
        x.sheet(1, 2, 3);
        Due.is("read(1, 2, 0, 1) of 0 spots", x.read(1, 2, 0, 1), -20);
    }

    private static void lay() {
        SorrowSpots x = new SorrowSpots();
        Due.is("lay(-1, 0, 0)", x.lay(-1, 0, 0), SorrowSpots.BAD);
        Due.is("lay(4, 0, 0)", x.lay(4, 0, 0), SorrowSpots.BAD);
        Due.is("nothing", x.lay(2, 0, 0), -11);
        Due.is("nothing, ahead of its index", x.lay(2, -1, 0), -11);
        x.sheet(2, 0, 2);
        Due.is("lay(2, -1, 0)", x.lay(2, -1, 0), -12);
        Due.is("lay(2, 2, 0)", x.lay(2, 2, 0), -12);
        Due.is("lay(2, greatest, 0)", x.lay(2, GREATEST, 0), -12);
        Due.is("lay(2, least, 0)", x.lay(2, LEAST, 0), -12);
        Due.is("lay(2, 0, 0)", x.lay(2, 0, 0), 1);
        Due.is("lay(2, 1, 0)", x.lay(2, 1, 0), 1);
        x.sheet(2, 1, 40);
        Due.is("lay(2, 39, greatest)", x.lay(2, 39, GREATEST), 1);
        Due.is("lay(2, 40, 0)", x.lay(2, 40, 0), -12);
        x.sheet(2, 2, 0);
        Due.is("lay(2, 0, 0) of no cells", x.lay(2, 0, 0), -12);
    }

    private static void laidByLanes() {
        SorrowSpots x = Due.told("one 3;");
        int[] ends = {256, 65536};
        for (int lane = 0; lane < 2; lane++) {
            x.end(0);
            Due.tell(x, "one 3;");
            x.sheet(0, lane, 3);
            x.lay(0, 0, ends[lane] + 3);
            x.lay(0, 1, 7 - ends[lane]);
            x.lay(0, 2, 3 * ends[lane]);
            Due.is("lane " + lane + ": the lowest bits", x.read(0, lane, 0, 1), 1);
            Due.is("beetle(0, 0)", x.beetle(0, 0), 3);
            Due.is("beetle(0, 1)", x.beetle(0, 1), 7);
            x.lay(0, 1, ends[lane] - 1);
            Due.is("lane " + lane + ": with a sign", x.read(0, lane, 0, 1), -20);
            x.lay(0, 1, 9);
            x.lay(0, 2, ends[lane] / 2);
            Due.is("lane " + lane + ": with a sign", x.read(0, lane, 0, 1), -20);
        }
        x.sheet(0, 1, 3);
        x.lay(0, 0, 256);
        x.lay(0, 1, 5);
        Due.is("a short holds 256", x.read(0, 1, 0, 1), -20);
        x.sheet(0, 2, 3);
        x.lay(0, 0, 65536);
        x.lay(0, 1, 5);
        Due.is("an int holds 65536", x.read(0, 2, 0, 1), -20);
        x.lay(0, 0, 2);
        Due.is("read(0, 2, 0, 1)", x.read(0, 2, 0, 1), 1);
    }

    /** Three red ones of 1, 2, 3 spots on the first, and a cell more. */
    private static SorrowSpots three(int lane) {
        SorrowSpots x = Due.told("one 3;one 5;");
        x.sheet(1, lane, 10);
        x.lay(1, 1, 1);
        x.lay(1, 4, 2);
        x.lay(1, 7, 3);
        return x;
    }

    private static void read() {
        for (int lane = 0; lane <= 2; lane++) {
            SorrowSpots x = three(lane);
            Due.is("read(1, " + lane + ", 0, 0)", x.read(1, lane, 0, 0), 0);
            Due.is("rule(1)", x.rule(1), 0);
            Due.is("read(1, " + lane + ", 0, 3)", x.read(1, lane, 0, 3), 3);
            Due.is("torn()", x.torn(), 0);
            Due.is("rule(1)", x.rule(1), 3);
            for (int b = 0; b < 3; b++) {
                int[] due = {0, b + 1, 0, 3, 0};
                for (int what = 0; what < due.length; what++) {
                    Due.is("beetle(" + b + ", " + what + ")", x.beetle(b, what), due[what]);
                }
            }
        }
        SorrowSpots y = three(0);
        y.lay(1, 3, 2);
        y.lay(1, 5, 1);
        Due.is("read(1, 0, 3, 1)", y.read(1, 0, 3, 1), 1);
        int[] due = {2, 2, 1, 5, 1};
        for (int what = 0; what < due.length; what++) {
            Due.is("beetle(0, " + what + ")", y.beetle(0, what), due[what]);
        }
        // from cell 4 on: 2 1 0, 3 0 0
        Due.is("read(1, 0, 4, 2)", y.read(1, 0, 4, 2), -21);
        y.lay(1, 5, 4);
        Due.is("read(1, 0, 4, 1): an orphan", y.read(1, 0, 4, 1), 1);
        Due.is("beetle(1, 0)", y.beetle(1, 0), 2);
        Due.is("beetle(1, 1)", y.beetle(1, 1), 4);
    }

    private static void readFaults() {
        SorrowSpots x = three(1);
        Due.is("nothing: read(0, 0, 0, 1)", x.read(0, 0, 0, 1), 0);
        Due.is("torn()", x.torn(), 1);
        Due.is("read(1, 1, 8, 1)", x.read(1, 1, 8, 1), 0);
        Due.is("torn()", x.torn(), 2);
        Due.is("nothing: read(3, 0, 0, 1)", x.read(3, 0, 0, 1), 0);
        Due.is("torn()", x.torn(), 1);
        Due.is("read(1, 1, 0, 4): those that were whole", x.read(1, 1, 0, 4), 3);
        Due.is("torn()", x.torn(), 2);
        Due.is("rule(1)", x.rule(1), 3);
        Due.is("read(1, 0, 0, 1): another lane", x.read(1, 0, 0, 1), 0);
        Due.is("torn()", x.torn(), 3);
        Due.is("read(1, 2, -1, 1): another lane ahead of its index", x.read(1, 2, -1, 1), 0);
        Due.is("torn()", x.torn(), 3);
        Due.is("read(0, 2, -1, 1): nothing ahead of its index", x.read(0, 2, -1, 1), 0);
        Due.is("torn()", x.torn(), 1);
        int[] past = {-1, -2, -3, LEAST, 8, 9, 10, 11, GREATEST, GREATEST - 1, GREATEST - 2, GREATEST - 3};
        for (int f : past) {
            Due.is("read(0, 0, 0, 0)", x.read(0, 0, 0, 0), 0);
            Due.is("torn()", x.torn(), 0);
            Due.is("read(1, 1, " + f + ", 13)", x.read(1, 1, f, 13), 0);
            Due.is("torn()", x.torn(), 2);
        }
        Due.is("rule(1)", x.rule(1), 3);
        Due.is("of n 0 no fault, whatever it is", x.read(1, 2, -1, 0), 0);
        Due.is("torn()", x.torn(), 0);
        x.sheet(2, 2, 0);
        Due.is("no cells: read(2, 2, 0, 1)", x.read(2, 2, 0, 1), 0);
        Due.is("torn()", x.torn(), 2);
    }

    private static void readRefused() {
        SorrowSpots x = three(0);
        x.read(1, 1, 0, 1);
        Due.is("torn()", x.torn(), 3);
        int[][] bad = {{-1, 0, 0, 1}, {4, 0, 0, 1}, {1, -1, 0, 1}, {1, 3, 0, 1}, {1, 0, 0, -1},
            {1, 0, 0, 14}, {4, 0, 0, 0}, {1, 3, 0, 0}};
        for (int[] a : bad) {
            Due.is("read, refused", x.read(a[0], a[1], a[2], a[3]), SorrowSpots.BAD);
        }
        Due.is("one that is refused leaves it: torn()", x.torn(), 3);
        x.lay(1, 6, 4);
        Due.is("no such kind: read(1, 0, 0, 3)", x.read(1, 0, 0, 3), -22);
        Due.is("then none came: rule(1)", x.rule(1), 0);
        Due.is("torn()", x.torn(), 3);
        Due.is("the first met: read(1, 0, 0, 13)", x.read(1, 0, 0, 13), -22);
        x.lay(1, 6, 3);
        x.lay(1, 5, 2);
        Due.is("no such one: read(1, 0, 0, 3)", x.read(1, 0, 0, 3), -21);
        Due.is("read(1, 0, 3, 3)", x.read(1, 0, 3, 3), -20);
        x.lay(1, 5, 1);
        x.lay(1, 1, 10);
        Due.is("too many spots: read(1, 0, 0, 3)", x.read(1, 0, 0, 3), -20);
        x.lay(1, 1, 9);
        Due.is("read(1, 0, 0, 3)", x.read(1, 0, 0, 3), 3);
        Due.is("torn()", x.torn(), 0);
        // a row of which a cell is missing is not whole: so no dab() refuses it
        x.lay(1, 9, 9);
        Due.is("read(1, 0, 9, 1)", x.read(1, 0, 9, 1), 0);
        Due.is("torn()", x.torn(), 2);
    }

    private static void readOfFull() {
        SorrowSpots x = Due.told("one 3;");
        x.sheet(0, 0, 40);
        for (int i = 0; i < 13; i++) {
            x.lay(0, 3 * i + 1, 1);
        }
        Due.is("six, and one more: read(0, 0, 0, 7)", x.read(0, 0, 0, 7), -26);
        Due.is("rule(1)", x.rule(1), 0);
        Due.is("read(0, 0, 0, 13)", x.read(0, 0, 0, 13), -26);
        Due.is("read(0, 0, 24, 6): five, then the index", x.read(0, 0, 24, 6), 5);
        Due.is("torn()", x.torn(), 2);
        Due.is("rule(1)", x.rule(1), 5);
        Due.is("read(0, 0, 36, 2)", x.read(0, 0, 36, 2), 1);
        Due.is("torn()", x.torn(), 2);
        Due.is("read(0, 0, 36, 1)", x.read(0, 0, 36, 1), -20);
        Due.is("read(0, 0, 38, 1): the fault is met first", x.read(0, 0, 38, 1), 0);
        Due.is("rule(1)", x.rule(1), 6);
    }

    private static void torn() {
        SorrowSpots x = three(0);
        Due.is("torn()", x.torn(), 0);
        x.read(1, 1, 0, 1);
        Due.is("torn()", x.torn(), 3);
        x.lay(3, 0, 0);
        x.sheet(3, 0, -1);
        x.keep(0);
        x.back(0);
        Due.tell(x, "one 2;");
        Due.is("of the latest read(): torn()", x.torn(), 3);
        x.read(1, 0, 0, 3);
        Due.is("torn()", x.torn(), 0);
    }

    private static void count() {
        SorrowSpots x = Due.told("one 3;red 4 0 3;pin 9 0 5;wind 0 9;wind 5 7;wind 3 1;");
        Due.is("count(-1)", x.count(-1), SorrowSpots.BAD);
        Due.is("count(6)", x.count(6), SorrowSpots.BAD);
        x.see(0, 0, 0);
        x.see(0, 0, 0);
        x.keep(1);
        x.feed(1);
        x.feed(1);
        x.feed(1);
        x.sheet(0, 2, 8);
        x.sheet(1, 2, 9);
        int[] due = {2, 1, 3, 8, 13, 17};
        for (int what = 0; what < due.length; what++) {
            Due.is("count(" + what + ")", x.count(what), due[what]);
        }
        x.keep(0);
        x.dab(1, 3, 0);
        Due.is("count(4)", x.count(4), 16);
        x.dab(3, 3, 0);
        x.dab(3, 3, 0);
        x.dab(3, 3, 0);
        Due.is("count(4) of six", x.count(4), 25);
        Due.is("one(0, 3) of six", x.one(0, 3), 18);
        x.back(0);
        Due.is("count(4) of two again", x.count(4), 13);
        Due.is("one(0, 1) of two again", x.one(0, 1), 0);
        Due.is("one(0, 3) of two again", x.one(0, 3), 0);
    }
}
