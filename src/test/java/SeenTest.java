/** Promises 29 to 33: whose it is, of which kind it is, told from counts. */
public final class SeenTest {
    public static void main(String[] args) {
        see();
        forget();
        owners();
        ownersOfASitter();
        kinds();
        fromWhenItIsAsked();
        ask();
        askAmongPossibleOnes();
        Due.end("SeenTest");
    }

    private static void see() {
        SorrowSpots x = Due.told("one 0;one 9;");
        Due.is("see(-1, 0, 0)", x.see(-1, 0, 0), SorrowSpots.BAD);
        Due.is("see(21, 0, 0)", x.see(21, 0, 0), SorrowSpots.BAD);
        Due.is("see(0, -1, 0)", x.see(0, -1, 0), SorrowSpots.BAD);
        Due.is("see(0, 2, 0)", x.see(0, 2, 0), SorrowSpots.BAD);
        Due.is("see(0, 0, -1)", x.see(0, 0, -1), SorrowSpots.BAD);
        Due.is("see(0, 0, 100)", x.see(0, 0, 100), SorrowSpots.BAD);
        Due.is("see(0, 0, 0)", x.see(0, 0, 0), 1);
        Due.is("see(20, 1, 99)", x.see(20, 1, 99), 2);
        for (int i = 3; i <= 6; i++) {
            Due.is("the same again", x.see(0, 0, 0), i);
        }
        Due.is("the 7th", x.see(0, 0, 0), SorrowSpots.FULL);
        Due.is("the 7th, bad", x.see(21, 0, 0), SorrowSpots.BAD);
        Due.is("count(0)", x.count(0), 6);
    }

    private static void forget() {
        SorrowSpots x = Due.told("one 0;red 4 0 0;");
        Due.is("forget(0)", x.forget(0), 0);
        Due.is("forget(1)", x.forget(1), SorrowSpots.BAD);
        x.see(1, 0, 4);
        x.see(0, 0, 0);
        x.see(0, 0, 9);
        Due.is("forget(-1)", x.forget(-1), SorrowSpots.BAD);
        Due.is("forget(4)", x.forget(4), SorrowSpots.BAD);
        Due.is("owners(0): 9 is wrong", x.owners(0), 0);
        Due.is("forget(3)", x.forget(3), 3);
        Due.is("forget(2): the first ones", x.forget(2), 3);
        Due.is("count(0)", x.count(0), 2);
        Due.is("owners(0)", x.owners(0), 1);
        Due.is("see(0, 0, 9)", x.see(0, 0, 9), 3);
        Due.is("owners(0)", x.owners(0), 0);
        Due.is("forget(0)", x.forget(0), 3);
        Due.is("owners(0)", x.owners(0), 1);
    }

    /** A red one at 5: by the first it comes on the 5th day, by the second on the 4th, by the third at once. */
    private static SorrowSpots three() {
        return Due.told("one 0;one 9;one 5;red 4 0 5;");
    }

    private static void owners() {
        SorrowSpots x = three();
        Due.is("owners(-1)", x.owners(-1), SorrowSpots.BAD);
        Due.is("owners(1)", x.owners(1), SorrowSpots.BAD);
        Due.is("nothing is seen", x.owners(0), 7);
        x.see(0, 2, 0);
        Due.is("behind 0 days none sits", x.owners(0), 7);
        x.see(1, 2, 0);
        Due.is("owners(0)", x.owners(0), 3);
        x.see(4, 1, 0);
        Due.is("owners(0)", x.owners(0), 1);
        x.see(20, 0, 4);
        Due.is("owners(0)", x.owners(0), 1);
        x.see(20, 0, 3);
        Due.is("owners(0)", x.owners(0), 0);
        x.forget(0);
        x.see(1, 2, 4);
        Due.is("owners(0)", x.owners(0), 4);
        x.forget(0);
        x.see(3, 1, 4);
        Due.is("owners(0)", x.owners(0), 0);
        x.forget(0);
        x.see(20, 1, 4);
        x.see(5, 0, 0);
        Due.is("owners(0)", x.owners(0), 2);
        Due.is("nothing is changed: beetle(0, 2)", x.beetle(0, 2), 0);
    }

    private static void ownersOfASitter() {
        SorrowSpots x = Due.told("one 0;one 9;wind 0 9;");
        x.dab(0, 4, 0);
        x.see(0, 0, 4);
        Due.is("it sits where it sits, whoever owns it", x.owners(0), 3);
        x.see(1, 1, 4);
        Due.is("blown off to 9", x.owners(0), 2);
    }

    private static void kinds() {
        SorrowSpots x = Due.told("one 0;one 9;red 4 0 5;");
        Due.is("kinds(-1)", x.kinds(-1), SorrowSpots.BAD);
        Due.is("kinds(1)", x.kinds(1), SorrowSpots.BAD);
        Due.is("nothing is seen", x.kinds(0), 15);
        x.see(2, 0, 0);
        Due.is("a pin would be there", x.kinds(0), 7);
        x.see(2, 1, 0);
        Due.is("a yellow one would be there", x.kinds(0), 5);
        x.see(5, 0, 3);
        Due.is("an orphan weighs 3", x.kinds(0), 4);
        x.forget(2);
        x.see(5, 0, 4);
        Due.is("a red one weighs 4", x.kinds(0), 1);
        x.forget(0);
        x.see(20, 0, 8);
        Due.is("a pin weighs 8", x.kinds(0), 8);
        x.forget(0);
        x.see(2, 1, 2);
        Due.is("a yellow one weighs 2", x.kinds(0), 2);
        x.see(2, 1, 3);
        Due.is("none", x.kinds(0), 0);
        Due.is("nothing is changed: beetle(0, 0)", x.beetle(0, 0), 0);
    }

    private static void fromWhenItIsAsked() {
        SorrowSpots x = three();
        x.see(4, 1, 4);
        Due.is("owners(0)", x.owners(0), 2);
        x.days(1);
        // by the first it went to 4: now it is 5 days from the second
        Due.is("behind 4 days from now on", x.owners(0), 0);
        x.forget(0);
        x.see(5, 1, 4);
        Due.is("behind 5", x.owners(0), 2);
    }

    private static void ask() {
        SorrowSpots x = three();
        Due.is("ask(-1, 0)", x.ask(-1, 0), SorrowSpots.BAD);
        Due.is("ask(1, 0)", x.ask(1, 0), SorrowSpots.BAD);
        Due.is("ask(0, -1)", x.ask(0, -1), SorrowSpots.BAD);
        Due.is("ask(0, 2)", x.ask(0, 2), SorrowSpots.BAD);
        Due.is("ask(0, 0)", x.ask(0, 0), 12);
        Due.is("ask(0, 1)", x.ask(0, 1), 2);
        SorrowSpots late = Due.told("one 0;one 9;red 4 0 5;");
        Due.is("ask(0, 0)", late.ask(0, 0), 41);
        Due.is("ask(0, 1)", late.ask(0, 1), 1);
        late.walk(1, 8);
        late.walk(0, 2);
        Due.is("of several the least", late.ask(0, 0), 30);
        SorrowSpots last = Due.told("one 2;one 3;one 0;red 6 2 8;orphan 4 2 7;orphan 9 1 0;orphan 7 1 9;"
                + "wind 2 7;wind 3 3;wind 5 5;");
        Due.is("the 20th day: ask(0, 0)", last.ask(0, 0), 201);
        Due.is("the 20th day: ask(0, 1)", last.ask(0, 1), 1);
        SorrowSpots same = Due.told("one 0;one 9;orphan 4 0 5;");
        Due.is("an orphan's owner is never told", same.ask(0, 0), SorrowSpots.NONE);
        Due.is("an orphan's owner is never told", same.ask(0, 1), SorrowSpots.NONE);
        Due.is("one alone", Due.told("one 0;red 1 0 5;").ask(0, 0), SorrowSpots.NONE);
    }

    private static void askAmongPossibleOnes() {
        SorrowSpots x = three();
        x.see(1, 2, 0);
        Due.is("the first or the second: ask(0, 0)", x.ask(0, 0), 41);
        Due.is("ask(0, 1)", x.ask(0, 1), 1);
        x.forget(0);
        x.see(4, 1, 0);
        Due.is("the first or the third: ask(0, 0)", x.ask(0, 0), 12);
        Due.is("ask(0, 1)", x.ask(0, 1), 1);
        x.see(1, 2, 0);
        Due.is("the first alone", x.ask(0, 0), SorrowSpots.NONE);
        x.see(1, 2, 4);
        Due.is("none", x.ask(0, 0), SorrowSpots.NONE);
        Due.is("none", x.ask(0, 1), SorrowSpots.NONE);
        // four owners by a yellow one: two looks alike are better than one that tells one of four
        SorrowSpots four = Due.told("one 5;one 5;one 5;one 5;red 4 0 5;red 2 1 5;");
        four.dab(0, 1, 0);
        Due.is("ask(0, 0)", four.ask(0, 0), 10);
        Due.is("ask(0, 1)", four.ask(0, 1), 3);
    }
}
