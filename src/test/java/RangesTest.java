/**
 * Every number of every call: the last value that is taken on either side, all between, and the first
 * that is not; each on an object of its own, in the empty county, in small ones and in the full one.
 */
public final class RangesTest {
    private static final String TAPE = "one 1";

    public static void main(String[] args) {
        held(0, 0, 0);
        held(1, 0, 0);
        held(1, 1, 1);
        held(2, 1, 3);
        held(3, 4, 5);
        held(4, 6, 6);
        Due.end("RangesTest");
    }

    private static void held(int people, int beetles, int seen) {
        for (Ranges.Range r : Ranges.of(people, beetles, TAPE.length(), seen)) {
            String who = r.call + ", number " + r.at + ", with " + people + " people, " + beetles + " beetles";
            Due.sentence("taken: " + who);
            int least = r.least == Ranges.OPEN_BELOW ? 0 : r.least;
            for (int v = least; v <= r.most; v++) {
                int[] a = r.with(v);
                long answer = county(people, beetles, seen).answer(r.call, a);
                Due.is(Calls.told(r.call, a) + " is BAD", answer == SorrowSpots.BAD ? 1 : 0, 0);
            }
            Due.sentence("not taken: " + who);
            for (int[] a : r.past()) {
                long answer = county(people, beetles, seen).answer(r.call, a);
                Due.is(Calls.told(r.call, a), answer, SorrowSpots.BAD);
            }
        }
    }

    private static Calls county(int people, int beetles, int seen) {
        Calls x = new Calls();
        StringBuilder text = new StringBuilder();
        for (int p = 0; p < people; p++) {
            text.append("one ").append(2 * p).append(';');
        }
        Due.is("text()", x.tell(text.toString()), people);
        for (int b = 0; b < beetles; b++) {
            Due.is("dab()", x.answer("dab", b % 4, 1 + b, b % people), b + 1);
        }
        for (int i = 0; i < seen; i++) {
            Due.is("see()", x.answer("see", i, i % people, i), i + 1);
        }
        x.feed(TAPE);
        return x;
    }
}
