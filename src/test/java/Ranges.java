import java.util.ArrayList;
import java.util.List;

/** The document's bounds of each number of each call, for a county of so many. */
final class Ranges {
    /** No bound on that side, or one that another answer than BAD tells. */
    static final int OPEN_BELOW = Integer.MIN_VALUE;

    private final int people;
    private final int beetles;
    private final int bytes;
    private final int seen;
    private final List<Range> all = new ArrayList<>();

    /** A call's number at a place takes least to most, the others being as in ordinary. */
    static final class Range {
        final String call;
        final int at;
        final int least;
        final int most;
        private final int[] ordinary;

        private Range(String itsCall, int itsAt, int itsLeast, int itsMost, int... others) {
            call = itsCall;
            at = itsAt;
            least = itsLeast;
            most = itsMost;
            ordinary = others;
        }

        int[] with(int v) {
            int[] a = ordinary.clone();
            a[at] = v;
            return a;
        }

        /** The first numbers past the bounds, and the last ones that there are. */
        List<int[]> past() {
            List<int[]> wrong = new ArrayList<>();
            if (least != OPEN_BELOW) {
                wrong.add(with(least - 1));
                wrong.add(with(Integer.MIN_VALUE));
            }
            wrong.add(with(most + 1));
            wrong.add(with(Integer.MAX_VALUE));
            return wrong;
        }
    }

    private Ranges(int itsPeople, int itsBeetles, int itsBytes, int itsSeen) {
        people = itsPeople;
        beetles = itsBeetles;
        bytes = itsBytes;
        seen = itsSeen;
    }

    /** What is taken in a county of so many, with so many bytes on the tape and so many SEEN. */
    static List<Range> of(int people, int beetles, int bytes, int seen) {
        Ranges r = new Ranges(people, beetles, bytes, seen);
        r.ofAny();
        r.ofPeople();
        r.ofBeetles();
        return r.all;
    }

    private void add(String call, int at, int least, int most, int... ordinary) {
        all.add(new Range(call, at, least, most, ordinary));
    }

    /** A number that tells a ONE; if there is nobody none is taken. */
    private void aOne(String call, int at, int... ordinary) {
        add(call, at, 0, people - 1, ordinary);
    }

    private void aBeetle(String call, int at, int... ordinary) {
        add(call, at, 0, beetles - 1, ordinary);
    }

    private void ofAny() {
        add("feed", 0, 0, 127, 0);
        add("end", 0, 0, bytes, 0);
        add("rule", 0, 0, 5, 0);
        add("wind", 0, 0, 5, 0);
        add("blow", 0, 0, 5, 0, 3);
        add("blow", 1, 0, 9, 2, 0);
        add("days", 0, 0, 30, 0);
        add("runs", 0, 0, 60, 0, 0);
        add("runs", 1, 0, 3, 2, 0);
        add("calm", 0, 0, 60, 0, 0);
        add("calm", 1, 0, 1, 2, 0);
        add("swap", 0, 0, 60, 0, 0);
        add("swap", 1, 0, 1, 2, 0);
        add("forget", 0, 0, seen, 0);
        add("drift", 1, 1, 60, 7, 1, 0);
        add("drift", 2, 0, 1, 7, 1, 0);
        add("keep", 0, 0, 1, 0);
        add("back", 0, 0, 1, 0);
        add("sheet", 0, 0, 3, 0, 0, 9);
        add("sheet", 1, 0, 2, 0, 0, 9);
        add("sheet", 2, OPEN_BELOW, 40, 0, 0, 0);
        add("lay", 0, 0, 3, 0, 0, 1);
        add("read", 0, 0, 3, 0, 0, 0, 1);
        add("read", 1, 0, 2, 0, 0, 0, 1);
        add("read", 3, 0, 13, 0, 0, 0, 0);
        add("count", 0, 0, 5, 0);
    }

    private void ofPeople() {
        aOne("one", 0, 0, 0);
        aOne("walk", 0, 0, 5);
        aOne("dab", 2, 0, 1, 0);
        aOne("ahead", 0, 0, 1);
        aOne("shed", 0, 0, 1, 0);
        aOne("off", 0, 0, 1, 0);
        aOne("mean", 1, 5, 0, 1, 0);
        aOne("see", 1, 1, 0, 4);
        if (people == 0) {
            return;
        }
        add("one", 1, 0, 3, 0, 0);
        add("walk", 1, 0, 9, 0, 0);
        add("dab", 0, 0, 3, 0, 1, 0);
        add("dab", 1, 1, 9, 0, 1, 0);
        add("ahead", 1, 0, 60, 0, 0);
        add("shed", 1, 0, 60, 0, 0, 0);
        add("shed", 2, 0, 1, 0, 1, 0);
        add("off", 1, 0, 60, 0, 0, 0);
        add("off", 2, 0, 1, 0, 1, 0);
        add("mean", 0, 0, 10, 5, 0, 1, 0);
        add("mean", 2, 0, 8, 5, 0, 1, 0);
        add("mean", 3, 0, 1, 5, 0, 1, 0);
        add("see", 0, 0, 20, 1, 0, 4);
        add("see", 2, 0, 99, 1, 0, 4);
        if (people > 1) {
            // the other one is the last, so all ahead of him are not alike
            add("meet", 0, 0, people - 2, 0, people - 1);
            add("meet", 1, 0, people - 2, people - 1, 0);
            add("meet", 0, 1, people - 1, 1, 0);
            add("meet", 1, 1, people - 1, 0, 1);
        }
    }

    private void ofBeetles() {
        aBeetle("beetle", 0, 0, 0);
        aBeetle("alter", 0, 0, 1, 3);
        aBeetle("lift", 0, 0, 5);
        aBeetle("where", 0, 0, 1);
        aBeetle("home", 0, 0);
        aBeetle("kind", 0, 0, 0);
        aBeetle("luck", 1, 5, 0, 1, 0);
        aBeetle("owners", 0, 0);
        aBeetle("kinds", 0, 0);
        aBeetle("ask", 0, 0, 0);
        aBeetle("need", 0, 0, 0, 1);
        if (beetles == 0) {
            return;
        }
        add("beetle", 1, 0, 6, 0, 0);
        if (people > 1) {
            // 1 is a KIND, it may be SPOTS, and it is a ONE
            add("alter", 1, 0, 2, 0, 0, 1);
        }
        add("alter", 2, 0, 3, 0, 0, 0);
        add("alter", 2, 1, 9, 0, 1, 0);
        aOne("alter", 2, 0, 2, 0);
        add("lift", 1, 0, 9, 0, 0);
        add("where", 1, 0, 60, 0, 0);
        add("kind", 1, 0, 1, 0, 0);
        add("luck", 0, 0, 10, 5, 0, 1, 0);
        add("luck", 2, 0, 8, 5, 0, 1, 0);
        add("luck", 3, 0, 1, 5, 0, 1, 0);
        add("ask", 1, 0, 1, 0, 0);
        aOne("need", 1, 0, 0, 1);
        add("need", 2, 0, 60, 0, 0, 1);
    }
}
