import java.util.ArrayList;
import java.util.List;
import java.util.function.Supplier;

/**
 * "What is refused changes nothing", and no more does what only asks: two objects go the same way, one of
 * them is also called so, and from there on both must answer alike whatever they are asked.
 */
public final class RefusedTest {
    private static final int GREATEST = Integer.MAX_VALUE;
    private static final int LEAST = Integer.MIN_VALUE;
    private static final String[] ASKING = {"fault", "rule", "one", "beetle", "wind", "meet", "runs", "ahead",
        "where", "home", "shed", "calm", "kind", "swap", "need", "off", "luck", "mean", "owners", "kinds", "ask",
        "drift", "torn", "count"};

    private static long[] plain;

    public static void main(String[] args) {
        inTheEmptyCounty();
        inAnOrdinaryCounty();
        inTheFullCounty();
        onTheLastDay();
        aTextByAFault();
        aRefusedReadLeavesNoFault();
        Due.end("RefusedTest");
    }

    private static void inTheEmptyCounty() {
        Supplier<Calls> empty = Calls::new;
        plain = all(empty.get());
        badOnes(empty, "the empty county", Ranges.of(0, 0, 0, 0));
        Object[][] others = {
            {"drift", -2, 7, 1, 0}, {"back", -2, 0}, {"back", -2, 1}, {"rule", -4, 5},
            {"lay", -11, 0, 0, 5}, {"lay", -11, 3, -1, 5}, {"sheet", -14, 0, 0, -1}, {"sheet", -14, 3, 2, LEAST},
            {"calm", -4, 60, 0}, {"swap", -4, 60, 1}, {"count", -4, 3}, {"meet", -1, 0, 0}, {"forget", 0, 0},
            {"end", 0, 0}, {"days", 0, 0}, {"fault", 0}, {"torn", 0}};
        alsoRefused(empty, "the empty county", others);
    }

    private static void inAnOrdinaryCounty() {
        Supplier<Calls> ordinary = RefusedTest::ordinary;
        plain = all(ordinary.get());
        List<Ranges.Range> ranges = Ranges.of(2, 3, 12, 2);
        badOnes(ordinary, "an ordinary county", ranges);
        asking(ordinary, "an ordinary county", ranges);
        Object[][] others = {
            {"lift", -2, 0, 9}, {"lift", -1, 0, 10}, {"back", -2, 0}, {"meet", -1, 1, 1},
            {"lay", -11, 1, 0, 5}, {"lay", -12, 0, -1, 5}, {"lay", -12, 0, 7, 5}, {"lay", -12, 0, GREATEST, 5},
            {"lay", -12, 0, LEAST, 5}, {"lay", -12, 3, 0, 5}, {"sheet", -14, 0, 0, -1}, {"sheet", -14, 2, 1, LEAST},
            {"sheet", -1, 0, 3, -1}, {"sheet", -1, 0, 0, 41}, {"read", -21, 0, 0, 0, 2}, {"read", -21, 0, 0, 0, 13},
            {"read", -20, 0, 0, 3, 1}, {"alter", -1, 0, 3, 1}, {"calm", -4, 0, 0}, {"swap", -4, 0, 0},
            {"off", -4, 0, 0, 0}, {"ask", -4, 1, 0}, {"days", 0, 0}, {"end", 12, 12}, {"forget", 2, 2}};
        alsoRefused(ordinary, "an ordinary county", others);
    }

    private static void inTheFullCounty() {
        Supplier<Calls> full = RefusedTest::full;
        plain = all(full.get());
        List<Ranges.Range> ranges = Ranges.of(4, 6, 160, 6);
        badOnes(full, "the full county", ranges);
        asking(full, "the full county", ranges);
        Object[][] others = {
            {"feed", -3, 0}, {"feed", -3, 127}, {"feed", -3, 59}, {"feed", -1, 128}, {"dab", -3, 0, 1, 0},
            {"dab", -3, 3, 9, 3}, {"dab", -1, 4, 1, 0}, {"see", -3, 0, 0, 0}, {"see", -3, 20, 3, 99},
            {"see", -1, 21, 0, 0}, {"read", -20, 1, 2, 0, 1}, {"read", -20, 1, 2, 37, 13}, {"lay", -12, 1, 40, 5},
            {"end", 160, 160}, {"forget", 6, 6}, {"need", -4, 0, 3, 0}};
        alsoRefused(full, "the full county", others);
    }

    private static void onTheLastDay() {
        Supplier<Calls> last = RefusedTest::onDay999;
        plain = all(last.get());
        Object[][] others = {{"days", -3, 1}, {"days", -3, 2}, {"days", -3, 30}, {"days", -1, 31}, {"days", -1, -1},
            {"days", 0, 0}, {"runs", 1, 60, 0}, {"drift", 0, 7, 3, 0}, {"ahead", 3, 0, 0}};
        alsoRefused(last, "day 999", others);
    }

    private static void aTextByAFault() {
        String[] faulty = {"?", "one 1;one 2;red 1 0 0;?", "one 1;one 100;", "blue 1;", "one 1", "one 10;",
            "wind 1 1;wind 1 2;", "one 1;one 1;one 1;one 1;one 1;", "one 1;red 1 1 1;"};
        List<Supplier<Calls>> counties = List.of(Calls::new, RefusedTest::ordinary, RefusedTest::onDay999);
        for (Supplier<Calls> county : counties) {
            Calls twin = county.get();
            twin.answer("end", 0);
            plain = all(twin);
            for (String text : faulty) {
                Due.sentence("text() by a FAULT: that which was told stays: '" + text + "'");
                Calls x = county.get();
                x.answer("end", 0);
                Due.is("text() is below -9", x.tell(text) < -9 ? 1 : 0, 1);
                Due.is("fault() is above 0", x.answer("fault") > 0 ? 1 : 0, 1);
                // fault() is the one that such a text leaves; all() asks for it first
                alike(x, 1);
            }
        }
    }

    private static void aRefusedReadLeavesNoFault() {
        Due.sentence("torn(): one that is refused leaves it");
        Calls x = ordinary();
        Due.is("torn() ahead of it", x.answer("torn"), 3);
        Due.is("read(0, 0, 0, 2), refused", x.answer("read", 0, 0, 0, 2), -21);
        Due.is("torn()", x.answer("torn"), 3);
        Due.is("read(0, 0, 0, 14), refused", x.answer("read", 0, 0, 0, 14), -1);
        Due.is("torn()", x.answer("torn"), 3);
        Due.is("read(0, 0, 0, 0)", x.answer("read", 0, 0, 0, 0), 0);
        Due.is("torn()", x.answer("torn"), 0);
    }

    // ---- counties

    /** 2 PEOPLE, 3 BEETLES (one in the air) on DAY 1, SEEN 2, IMAGE 1, SHEETS of all sorts, torn() 3. */
    private static Calls ordinary() {
        Calls x = new Calls();
        Due.is("text()", x.tell("one 2;one 7;red 3 0 5;orphan 6 1 8;wind 0 4;wind 1 2;wind 4 9;"), 7);
        x.answer("dab", 3, 5, 1);
        Due.is("days(1)", x.answer("days", 1), 0);
        x.answer("see", 2, 0, 3);
        x.answer("keep", 1);
        x.answer("see", 0, 1, 10);
        x.answer("walk", 0, 3);
        x.answer("alter", 0, 1, 4);
        x.answer("sheet", 0, 0, 7);
        x.answer("lay", 0, 0, 1);
        x.answer("lay", 0, 1, 8);
        x.answer("lay", 0, 2, 1);
        x.answer("sheet", 2, 2, 3);
        x.answer("lay", 2, 1, 6);
        x.answer("sheet", 3, 1, 0);
        Due.is("read(0, 1, 0, 1)", x.answer("read", 0, 1, 0, 1), 0);
        x.feed("one 4;one 5;");
        return x;
    }

    /** 4 PEOPLE, 6 BEETLES, 6 SEEN, 160 bytes on the tape, both IMAGES, a SHEET of 40 CELLS. */
    private static Calls full() {
        Calls x = new Calls();
        Due.is("text()", x.tell("one0;one3;one6;one9;wind0 5;wind3 7;"), 6);
        for (int b = 0; b < 6; b++) {
            Due.is("dab()", x.answer("dab", b % 4, 9 - b, b % 3), b + 1);
        }
        x.answer("keep", 0);
        for (int i = 0; i < 6; i++) {
            Due.is("see()", x.answer("see", 3 * i, 3, 0), i + 1);
        }
        x.answer("walk", 3, 8);
        x.answer("keep", 1);
        x.answer("sheet", 1, 2, 40);
        x.answer("lay", 1, 1, 1);
        x.answer("lay", 1, 38, 1);
        String text = "one 3;one 5;wind 2 7;";
        x.feed(text);
        for (int i = text.length(); i < 160; i++) {
            x.answer("feed", 32);
        }
        return x;
    }

    private static Calls onDay999() {
        Calls x = new Calls();
        Due.is("text()", x.tell("one 5;red 3 0 5;wind 4 9;"), 3);
        for (int i = 0; i < 33; i++) {
            x.answer("days", 30);
        }
        x.answer("days", 9);
        Due.is("rule(2)", x.answer("rule", 2), 999);
        x.answer("keep", 0);
        x.answer("see", 1, 0, 3);
        return x;
    }

    // ---- how it is held

    private static void badOnes(Supplier<Calls> county, String where, List<Ranges.Range> ranges) {
        for (Ranges.Range r : ranges) {
            for (int[] a : r.past()) {
                Due.sentence("in " + where + " " + Calls.told(r.call, a) + ", refused, changes nothing");
                Calls x = county.get();
                Due.is(Calls.told(r.call, a), x.answer(r.call, a), SorrowSpots.BAD);
                alike(x, 0);
            }
        }
    }

    private static void asking(Supplier<Calls> county, String where, List<Ranges.Range> ranges) {
        for (Ranges.Range r : ranges) {
            if (!List.of(ASKING).contains(r.call)) {
                continue;
            }
            for (int v : new int[] {r.least, r.most}) {
                Due.sentence("in " + where + " " + Calls.told(r.call, r.with(v)) + " only asks");
                Calls x = county.get();
                x.answer(r.call, r.with(v));
                alike(x, 0);
            }
        }
    }

    /** Each of the calls: its name, the answer that is due, its numbers. */
    private static void alsoRefused(Supplier<Calls> county, String where, Object[][] calls) {
        for (Object[] call : calls) {
            int[] a = new int[call.length - 2];
            for (int i = 0; i < a.length; i++) {
                a[i] = (Integer) call[i + 2];
            }
            String name = (String) call[0];
            Due.sentence("in " + where + " " + Calls.told(name, a) + " changes nothing");
            Calls x = county.get();
            Due.is(Calls.told(name, a), x.answer(name, a), (Integer) call[1]);
            alike(x, 0);
        }
    }

    /** Holds all that an object answers, from an answer on, against what its twin answered. */
    private static void alike(Calls x, int from) {
        long[] got = all(x);
        Due.is("how many answers", got.length, plain.length);
        for (int i = from; i < got.length; i++) {
            Due.is("the answer " + i + " behind it", got[i], plain[i]);
        }
    }

    /** All that can be asked of an object: as it is, by its IMAGES, by its tape, by its SHEETS. */
    private static long[] all(Calls x) {
        List<Long> told = new ArrayList<>();
        told.add(x.answer("fault"));
        told.add(x.answer("torn"));
        county(x, told, 6);
        for (int n : new int[] {1, 7}) {
            told.add(x.answer("runs", n, 1));
            told.add(x.answer("runs", n, 2));
        }
        for (int k = 0; k <= 1; k++) {
            told.add(x.answer("back", k));
            county(x, told, 4);
        }
        told.add(x.answer("text"));
        told.add(x.answer("fault"));
        for (int p = 0; p <= 2; p++) {
            told.add(x.answer("one", p, 0));
        }
        sheets(x, told);
        Due.is("calls, beyond those that count", x.many() > Calls.MOST ? x.many() : 0, 0);
        return told.stream().mapToLong(Long::longValue).toArray();
    }

    private static void county(Calls x, List<Long> told, int ofBeetle) {
        for (int i = 0; i < 6; i++) {
            told.add(x.answer("rule", i));
            told.add(x.answer("count", i));
            told.add(x.answer("wind", i));
            told.add(x.answer("owners", i));
            told.add(x.answer("kinds", i));
            for (int what = 0; what < ofBeetle; what++) {
                told.add(x.answer("beetle", i, what));
            }
        }
        for (int p = 0; p < 4; p++) {
            told.add(x.answer("one", p, 0));
            told.add(x.answer("one", p, 1));
        }
    }

    private static void sheets(Calls x, List<Long> told) {
        for (int k = 0; k <= 3; k++) {
            for (int lane = 0; lane <= 2; lane++) {
                told.add(x.answer("read", k, lane, 0, 1));
                told.add(x.answer("torn"));
            }
            told.add(x.answer("lay", k, 6, 0));
            told.add(x.answer("lay", k, 39, 0));
        }
        for (int b = 0; b < 3; b++) {
            told.add(x.answer("beetle", b, 1));
        }
    }
}
