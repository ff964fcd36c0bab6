/** Promises 29 to 33 (EdgesTest). */
final class SeenEdges {
    private static final int BAD = SorrowSpots.BAD;
    private static final int FULL = SorrowSpots.FULL;
    private static final int NONE = SorrowSpots.NONE;
    // looked for by running such counties day by day, once for each owner
    private static final String TOLD_BEHIND_20 = "one 8;one 4;one 7;orphan 6 2 0;red 1 2 9;pin 5 0 1;"
            + "wind 0 8;wind 2 1;wind 3 8;";
    private static final String TOLD_BEHIND_21 = "one 7;one 6;orphan 2 0 2;red 3 0 6;orphan 3 0 7;"
            + "wind 0 7;wind 1 2;wind 3 8;";

    private SeenEdges() {
    }

    static void hold() {
        seeUpToSix();
        seeToTheEnds();
        forgetAllButTheFirst();
        forgetOfNoneAndOfAll();
        ownersIfNothingIsSeen();
        ownersOfAllAndOfNone();
        ownersBehindTwenty();
        ownersAllElseAsItIs();
        kindsIfNothingIsSeen();
        kindsEachAndNone();
        askOfDaysNoughtToTwenty();
        askOfBehind21();
        askFewerThanNow();
        askOfSeveralTheLeast();
        askAtTheWorst();
    }

    private static void seeUpToSix() {
        Due.sentence("29 see(): how many are; FULL");
        SorrowSpots x = Due.told("one 5;");
        for (int many = 1; many <= 6; many++) {
            Due.is("see(0, 0, 0)", x.see(0, 0, 0), many);
        }
        Due.is("see(0, 0, 0)", x.see(0, 0, 0), FULL);
        Due.is("count(0)", x.count(0), 6);
        Due.is("forget(5)", x.forget(5), 6);
        Due.is("see(0, 0, 0)", x.see(0, 0, 0), 6);
        Due.is("see(0, 0, 0)", x.see(0, 0, 0), FULL);
    }

    private static void seeToTheEnds() {
        Due.sentence("29 see(): behind n DAYS (0 to 20) a ONE is COUNTED v (0 to 99). BAD");
        SorrowSpots x = Due.told("one 5;one 5;one 5;one 5;");
        Due.is("see(0, 0, 0)", x.see(0, 0, 0), 1);
        Due.is("see(20, 3, 99)", x.see(20, 3, 99), 2);
        int[][] bad = {{-1, 0, 0}, {21, 0, 0}, {0, -1, 0}, {0, 4, 0}, {0, 0, -1}, {0, 0, 100}};
        for (int[] a : bad) {
            Due.is("see, refused", x.see(a[0], a[1], a[2]), BAD);
        }
        Due.is("count(0)", x.count(0), 2);
        // six pins of 9 SPOTS are 108: no see() tells that
        for (int b = 0; b < 6; b++) {
            x.dab(3, 9, 0);
        }
        x.forget(0);
        Due.is("see(0, 0, 108)", x.see(0, 0, 108), BAD);
        x.alter(5, 1, 4);
        x.alter(5, 0, 2);
        x.alter(4, 1, 3);
        Due.is("one(0, 2)", x.one(0, 2), 72 + 6 + 3);
        x.see(0, 0, 81);
        Due.is("owners(0)", x.owners(0), 15);
    }

    private static void forgetAllButTheFirst() {
        Due.sentence("30 forget(): SEEN are the first n alone: how many there were");
        SorrowSpots x = Due.told("one 5;");
        x.dab(0, 1, 0);
        x.see(0, 0, 1);
        x.see(0, 0, 2);
        x.see(0, 0, 3);
        Due.is("owners(0)", x.owners(0), 0);
        Due.is("forget(2)", x.forget(2), 3);
        Due.is("owners(0)", x.owners(0), 0);
        Due.is("forget(1)", x.forget(1), 2);
        Due.is("the first is right: owners(0)", x.owners(0), 1);
        Due.is("what was forgotten is gone: forget(2)", x.forget(2), BAD);
        Due.is("count(0)", x.count(0), 1);
    }

    private static void forgetOfNoneAndOfAll() {
        Due.sentence("30 forget(): BAD (n above that, too)");
        SorrowSpots x = Due.told("one 5;");
        Due.is("of none: forget(0)", x.forget(0), 0);
        Due.is("of none: forget(1)", x.forget(1), BAD);
        for (int many = 1; many <= 6; many++) {
            x.see(0, 0, 0);
            Due.is("forget(" + (many + 1) + ")", x.forget(many + 1), BAD);
            Due.is("forget(" + many + ")", x.forget(many), many);
        }
        Due.is("forget(-1)", x.forget(-1), BAD);
        Due.is("forget(greatest)", x.forget(Integer.MAX_VALUE), BAD);
        Due.is("forget(least)", x.forget(Integer.MIN_VALUE), BAD);
        Due.is("forget(0)", x.forget(0), 6);
        Due.is("forget(0)", x.forget(0), 0);
    }

    private static void ownersIfNothingIsSeen() {
        Due.sentence("31 owners(): nothing SEEN: all is as SEEN, by each");
        String people = "";
        for (int many = 1; many <= 4; many++) {
            people += "one 5;";
            SorrowSpots x = Due.told(people + "red 1 0 5;");
            Due.is("of " + many + ": owners(0)", x.owners(0), (1 << many) - 1);
            Due.is("owners(1)", x.owners(1), BAD);
            Due.is("owners(-1)", x.owners(-1), BAD);
        }
    }

    private static void ownersOfAllAndOfNone() {
        Due.sentence("31 owners(): (bits), from none to each of four");
        SorrowSpots x = Due.told("one 5;one 5;one 5;one 5;red 7 0 5;");
        for (int p = 0; p < 4; p++) {
            x.forget(0);
            x.see(1, p, 7);
            Due.is("owners(0)", x.owners(0), 1 << p);
            x.forget(0);
            x.see(1, p, 0);
            Due.is("owners(0)", x.owners(0), 15 - (1 << p));
            x.see(1, p, 7);
            Due.is("owners(0)", x.owners(0), 0);
        }
        // by a yellow one it is the one ahead of him
        x.alter(0, 0, 1);
        x.forget(0);
        x.see(1, 0, 4);
        Due.is("yellow: owners(0)", x.owners(0), 8);
    }

    private static void ownersBehindTwenty() {
        Due.sentence("31 owners(): as SEEN behind 0 and behind 20 DAYS");
        SorrowSpots x = EdgesTest.eachSixth();
        x.walk(0, 7);
        // 2 away: it sits behind 18 and 20 days, not behind 19
        x.see(0, 0, 5);
        x.see(20, 0, 5);
        x.see(19, 0, 0);
        x.see(18, 0, 5);
        Due.is("owners(0)", x.owners(0), 1);
        x.see(20, 0, 0);
        Due.is("owners(0)", x.owners(0), 0);
        x.forget(4);
        x.see(0, 0, 0);
        Due.is("owners(0)", x.owners(0), 0);
        Due.is("rule(2)", x.rule(2), 0);
    }

    private static void ownersAllElseAsItIs() {
        Due.sentence("31 owners(): of a BEETLE, all else as it is (it sits where it sits)");
        SorrowSpots x = Due.told("one 0;one 9;red 2 1 9;wind 1 9;");
        x.dab(0, 4, 0);
        x.see(0, 0, 4);
        x.see(1, 1, 2);
        Due.is("it is not blown off yet: owners(1)", x.owners(1), 3);
        Due.is("the other lands on the second alone: owners(0)", x.owners(0), 2);
        Due.is("beetle(0, 2)", x.beetle(0, 2), 1);
        Due.is("beetle(1, 2)", x.beetle(1, 2), 0);
    }

    private static void kindsIfNothingIsSeen() {
        Due.sentence("32 kinds(): nothing SEEN: all is as SEEN, by each KIND");
        SorrowSpots x = Due.told("one 5;pin 1 0 5;");
        Due.is("kinds(0)", x.kinds(0), 15);
        Due.is("kinds(1)", x.kinds(1), BAD);
        Due.is("kinds(-1)", x.kinds(-1), BAD);
    }

    private static void kindsEachAndNone() {
        Due.sentence("32 kinds(): (bits), from none to each of four");
        SorrowSpots x = Due.told("one 5;");
        x.dab(0, 8, 0);
        int[] weights = {8, 4, 5, 16};
        for (int k = 0; k < 4; k++) {
            x.forget(0);
            x.see(0, 0, weights[k]);
            Due.is("kinds(0)", x.kinds(0), 1 << k);
            x.see(20, 0, weights[k]);
            Due.is("behind 20, too: kinds(0)", x.kinds(0), 1 << k);
        }
        x.see(0, 0, 7);
        Due.is("kinds(0)", x.kinds(0), 0);
        x.forget(0);
        x.alter(0, 1, 2);
        x.see(0, 0, 2);
        Due.is("2 SPOTS weigh 2 by red and by orphan: kinds(0)", x.kinds(0), 5);
        Due.is("beetle(0, 0)", x.beetle(0, 0), 0);
    }

    /** How many owners of a BEETLE a look at a ONE behind so many days leaves at the worst, found by ahead(). */
    private static int left(String text, int b, int p, int n) {
        SorrowSpots x = Due.told(text);
        int[] looks = new int[x.rule(0)];
        for (int o = 0; o < looks.length; o++) {
            x.alter(b, 2, o);
            looks[o] = x.ahead(p, n);
        }
        int most = 0;
        for (int look : looks) {
            int alike = 0;
            for (int other : looks) {
                alike += other == look ? 1 : 0;
            }
            most = Math.max(most, alike);
        }
        return most;
    }

    private static void askOfDaysNoughtToTwenty() {
        Due.sentence("33 ask(): Behind how many DAYS (0 to 20)");
        for (int p = 0; p < 3; p++) {
            Due.is("behind 0 of " + p + " nothing is told", left(TOLD_BEHIND_20, 2, p, 0), 3);
            for (int n = 1; n < 20; n++) {
                Due.is("behind " + n + " of " + p + " too few", left(TOLD_BEHIND_20, 2, p, n) > 1 ? 1 : 0, 1);
            }
            Due.is("behind 20 of " + p, left(TOLD_BEHIND_20, 2, p, 20) > 1 ? 1 : 0, p == 1 ? 0 : 1);
        }
        SorrowSpots x = Due.told(TOLD_BEHIND_20);
        Due.is("ask(2, 0)", x.ask(2, 0), 201);
        Due.is("ask(2, 1)", x.ask(2, 1), 1);
    }

    private static void askOfBehind21() {
        Due.sentence("33 ask(): NONE: none (told behind 21 DAYS is too late)");
        for (int p = 0; p < 2; p++) {
            for (int n = 0; n <= 20; n++) {
                Due.is("behind " + n + " of " + p, left(TOLD_BEHIND_21, 1, p, n), 2);
            }
        }
        Due.is("behind 21", Math.min(left(TOLD_BEHIND_21, 1, 0, 21), left(TOLD_BEHIND_21, 1, 1, 21)), 1);
        SorrowSpots x = Due.told(TOLD_BEHIND_21);
        Due.is("ask(1, 0)", x.ask(1, 0), NONE);
        Due.is("ask(1, 1)", x.ask(1, 1), NONE);
    }

    private static void askFewerThanNow() {
        Due.sentence("33 ask(): fewer than now; NONE: none, as by one owner or by none");
        SorrowSpots alone = Due.told("one 5;red 1 0 5;");
        Due.is("ask(0, 0)", alone.ask(0, 0), NONE);
        Due.is("ask(0, 1)", alone.ask(0, 1), NONE);
        Due.is("ask(1, 0)", alone.ask(1, 0), BAD);
        Due.is("ask(-1, 0)", alone.ask(-1, 0), BAD);
        Due.is("ask(0, 2)", alone.ask(0, 2), BAD);
        Due.is("ask(0, -1)", alone.ask(0, -1), BAD);
        SorrowSpots x = Due.told("one 5;one 5;red 4 0 5;");
        Due.is("of two: ask(0, 0)", x.ask(0, 0), 10);
        Due.is("of two: ask(0, 1)", x.ask(0, 1), 1);
        x.see(1, 0, 4);
        Due.is("of one: ask(0, 0)", x.ask(0, 0), NONE);
        x.see(1, 1, 4);
        Due.is("of none: ask(0, 0)", x.ask(0, 0), NONE);
        Due.is("of none: ask(0, 1)", x.ask(0, 1), NONE);
        SorrowSpots orphan = Due.told("one 5;one 5;orphan 4 0 5;");
        Due.is("never told: ask(0, 0)", orphan.ask(0, 0), NONE);
    }

    private static void askOfSeveralTheLeast() {
        Due.sentence("33 ask(): 10 times the DAYS and the ONE, of several the least");
        // behind a day by the second, behind 2 by the first, behind 9 by both
        SorrowSpots x = Due.told("one 7;one 4;red 4 0 5;");
        Due.is("ask(0, 0)", x.ask(0, 0), 11);
        Due.is("ask(0, 1)", x.ask(0, 1), 1);
        x.walk(1, 3);
        Due.is("both behind 2: ask(0, 0)", x.ask(0, 0), 20);
        x.walk(1, 0);
        x.walk(0, 1);
        Due.is("behind 4 of the first: ask(0, 0)", x.ask(0, 0), 40);
        x.walk(0, 0);
        Due.is("both behind 5: ask(0, 0)", x.ask(0, 0), 50);
        Due.is("ask(0, 1)", x.ask(0, 1), 1);
    }

    private static void askAtTheWorst() {
        Due.sentence("33 ask(): fewest are left at the worst");
        // three owners: a look at any one leaves two at the worst; four: three
        SorrowSpots three = Due.told("one 5;one 5;one 5;red 4 0 5;");
        Due.is("ask(0, 0)", three.ask(0, 0), 10);
        Due.is("ask(0, 1)", three.ask(0, 1), 2);
        SorrowSpots four = Due.told("one 5;one 5;one 5;one 5;red 4 0 5;");
        Due.is("ask(0, 0)", four.ask(0, 0), 10);
        Due.is("ask(0, 1)", four.ask(0, 1), 3);
        // what is SEEN already does not count
        four.see(1, 0, 0);
        Due.is("of three: ask(0, 0)", four.ask(0, 0), 11);
        Due.is("of three: ask(0, 1)", four.ask(0, 1), 2);
        four.see(1, 1, 0);
        Due.is("of two: ask(0, 0)", four.ask(0, 0), 12);
        Due.is("of two: ask(0, 1)", four.ask(0, 1), 1);
    }
}
