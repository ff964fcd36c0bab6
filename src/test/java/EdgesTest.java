/**
 * Promises 1 to 41: each sentence there that names an edge (the least, the most, none, several, a wrap-around,
 * a refused call) has a test of its own. RangesTest holds all bounds of all numbers, RefusedTest what is left
 * unchanged, TermsTest what several promises share.
 */
public final class EdgesTest {
    private EdgesTest() {
    }

    public static void main(String[] args) {
        TextEdges.hold();
        ChangeEdges.hold();
        DayEdges.hold();
        BestEdges.hold();
        OddsEdges.hold();
        SeenEdges.hold();
        DriftEdges.hold();
        SheetEdges.hold();
        Due.end("EdgesTest");
    }

    /**
     * A red one of 5 SPOTS on the only ONE, at 3; wind 0 blows by 6: it SITS behind 0, 6, 12 .. 60 days
     * and behind no others.
     */
    static SorrowSpots eachSixth() {
        SorrowSpots x = Due.told("one 3;wind 0 6;");
        x.dab(0, 5, 0);
        return x;
    }

    /**
     * A red one of 5 SPOTS on the first ONE, at 6, another at 0; wind 5 blows by 6 to 0: behind 6, 12 .. 60
     * days the red one is at 1 in the air, behind 11, 17 .. 59 days it SITS.
     */
    static SorrowSpots notEachSixth() {
        SorrowSpots x = Due.told("one 6;one 0;wind 5 6;");
        x.dab(0, 5, 0);
        return x;
    }
}
