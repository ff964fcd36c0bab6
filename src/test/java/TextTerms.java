/** "Terms" on THE TAPE, its TOKENS, its FAULTS, and what a text tells (TermsTest). */
final class TextTerms {
    private static final int BAD = SorrowSpots.BAD;
    private static final int FULL = SorrowSpots.FULL;
    private static final int NONE = SorrowSpots.NONE;
    private static final int STATE = SorrowSpots.STATE;
    private static final String FOUR_ONES = "one 0;one 1;one 2;one 3;";
    private static final String SIX_BEETLES = "pin 1 0 0;red 1 0 0;pin 1 0 0;red 1 0 0;pin 1 0 0;red 1 0 0;";

    private TextTerms() {
    }

    static void hold() {
        tapeOf160Bytes();
        placesFromNought();
        tokensAsLongAsMayBe();
        blanksAsManyAsWanted();
        blanksBetweenTwo();
        bytesOfNames();
        everyByteBehindALine();
        everyByteInALine();
        numbersOfOneOrTwoFigures();
        noLinesAtAll();
        numbersOfEachLine();
        firstMetAsItIsRead();
        fault1();
        fault2AtTheEnd();
        everyTokenOfEveryLine();
        fault3();
        fault4();
        fault5();
        fault6();
        tellsAllInPlaceOfWhatThereWas();
        nothingIsSeenImagesAreGone();
        sheetsStay();
    }

    static void faulty(SorrowSpots x, String text, int fault, int place) {
        Due.is("text() of '" + text + "'", Due.tell(x, text), -10 - place);
        Due.is("fault() of '" + text + "'", x.fault(), fault);
        Due.is("count(2) behind '" + text + "'", x.count(2), 0);
    }

    private static void faulty(String text, int fault, int place) {
        faulty(new SorrowSpots(), text, fault, place);
    }

    private static void taken(String text, int lines) {
        SorrowSpots x = new SorrowSpots();
        Due.is("text() of '" + text + "'", Due.tell(x, text), lines);
        Due.is("fault() of '" + text + "'", x.fault(), 0);
    }

    private static void tapeOf160Bytes() {
        Due.sentence("THE TAPE has 160 bytes");
        SorrowSpots x = new SorrowSpots();
        String text = " ".repeat(154) + "one 7;";
        Due.feed(x, text);
        Due.is("count(2)", x.count(2), 160);
        Due.is("one more", x.feed('?'), FULL);
        Due.is("count(2)", x.count(2), 160);
        Due.is("all 160 are read: text()", x.text(), 1);
        Due.is("one(0, 0)", x.one(0, 0), 7);
        Due.is("empty again: feed(32)", x.feed(32), 1);
    }

    private static void placesFromNought() {
        Due.sentence("THE TAPE: places from 0");
        faulty("?", 1, 0);
        faulty(" ?", 1, 1);
        faulty(" ".repeat(159) + "?", 1, 159);
        faulty(" ".repeat(157) + "one", 2, 160);
        faulty("red 1 0 0;" + " ".repeat(150), 6, 160);
    }

    private static void tokensAsLongAsMayBe() {
        Due.sentence("TOKENS, each as long as may be");
        faulty("oneone 1;", 2, 0);
        faulty("ones 1;", 2, 0);
        faulty("one 1;pinpin 1 0 0;", 2, 6);
        faulty("one 11;", 3, 4);
        faulty("one 111;", 1, 4);
        faulty("wind 00;", 2, 7);
        // the shorter ones are no NAMES of lines
        faulty("on 1;", 2, 0);
        faulty("o ne 1;", 2, 0);
        faulty("yello 1 0 0;", 2, 0);
        faulty("orpha 1 0 0;", 2, 0);
        faulty("win 1 1;", 2, 0);
        faulty("winds 1 1;", 2, 0);
        // nor those that differ in one sign alone
        for (String name : new String[] {"ope", "onf", "rea", "rfd", "sed", "pit", "pan", "xin", "xellow", "yellox",
            "orphas", "prphan", "wing", "winb", "vind"}) {
            faulty(name + " 1 0 0;", 2, 0);
        }
    }

    private static void blanksAsManyAsWanted() {
        Due.sentence("blanks (32) ahead, between, behind, as many as wanted");
        taken("", 0);
        taken(" ", 0);
        taken(" ".repeat(160), 0);
        taken(" ".repeat(50) + "one" + " ".repeat(50) + "9" + " ".repeat(50) + ";     ", 1);
        taken("  wind  3   4   ;   one    2 ;red 1  0  0;", 3);
    }

    private static void blanksBetweenTwo() {
        Due.sentence("at least one between two NAMES, between two NUMBERS; else none is needed");
        taken("one1;red9 0 9;wind5 9;", 3);
        taken("one 1;one 2;", 2);
        taken("one1 ;one2 ;", 2);
        faulty("red 10 0;", 3, 4);
        faulty("red 1 00;", 2, 8);
        faulty("wind 59;", 3, 5);
        // a NAME right behind a NUMBER, and the other way, are two TOKENS
        faulty("one 1one 2;", 2, 5);
        faulty("1one;", 2, 0);
        faulty("one1one1;", 2, 4);
    }

    private static void bytesOfNames() {
        Due.sentence("NAMES (a .. z): neither ` nor { nor A nor Z");
        faulty("one 1;a", 2, 6);
        faulty("one 1;z", 2, 6);
        faulty("one 1;`", 1, 6);
        faulty("one 1;{", 1, 6);
        faulty("one 1;A", 1, 6);
        faulty("one 1;Z", 1, 6);
        faulty("on`", 2, 0);
        faulty("one{1;", 1, 3);
        faulty("oneA1;", 1, 3);
    }

    private static void everyByteBehindALine() {
        Due.sentence("TOKENS: NAMES, NUMBERS, the sign ; (a point is none); blanks; and nothing else");
        for (int c = 0; c <= 127; c++) {
            SorrowSpots x = new SorrowSpots();
            Due.feed(x, "one 1;");
            x.feed(c);
            boolean isName = c >= 97 && c <= 122;
            boolean isNumber = c >= 48 && c <= 57;
            boolean isToken = isName || isNumber || c == 59;
            Due.is("text() with the byte " + c, x.text(), c == 32 ? 1 : -16);
            Due.is("fault() of the byte " + c, x.fault(), c == 32 ? 0 : isToken ? 2 : 1);
        }
    }

    private static void everyByteInALine() {
        Due.sentence("where a NUMBER is due no other byte will do");
        for (int c = 0; c <= 127; c++) {
            SorrowSpots x = new SorrowSpots();
            Due.feed(x, "one");
            x.feed(c);
            x.feed('3');
            x.feed(';');
            boolean isNumber = c >= 48 && c <= 57;
            if (c == 32 || c == '0') {
                Due.is("text() with the byte " + c, x.text(), 1);
            } else if (isNumber) {
                Due.is("text() with the byte " + c, x.text(), -13);
                Due.is("fault() of the byte " + c, x.fault(), 3);
            } else {
                boolean isName = c >= 97 && c <= 122;
                // a letter makes the NAME longer, which is read at 0
                Due.is("text() with the byte " + c, x.text(), isName ? -10 : -13);
                Due.is("fault() of the byte " + c, x.fault(), isName || c == 59 ? 2 : 1);
            }
        }
    }

    private static void numbersOfOneOrTwoFigures() {
        Due.sentence("NUMBERS (1 or 2 figures)");
        taken("one 7;one 07;one 00;one 0;", 4);
        taken("one 0;red 01 00 09;wind 05 09;", 3);
        faulty("one 007;", 1, 4);
        faulty("one 000;", 1, 4);
        faulty("one 999999999999;", 1, 4);
        faulty("one 4294967296;", 1, 4);
        SorrowSpots x = Due.told("one 07;one 00;pin 09 01 03;");
        Due.is("one(0, 0)", x.one(0, 0), 7);
        Due.is("one(1, 0)", x.one(1, 0), 0);
        Due.is("beetle(0, 1)", x.beetle(0, 1), 9);
        Due.is("beetle(0, 2)", x.beetle(0, 2), 1);
        Due.is("beetle(0, 3)", x.beetle(0, 3), 3);
    }

    private static void noLinesAtAll() {
        Due.sentence("text: { line }, none of them, too");
        SorrowSpots x = Due.told("one 7;red 1 0 0;wind 1 1;");
        Due.is("text() of nothing", x.text(), 0);
        Due.is("rule(0)", x.rule(0), 0);
        Due.is("rule(1)", x.rule(1), 0);
        Due.is("count(5)", x.count(5), 0);
        // as many lines as 160 bytes may have
        SorrowSpots y = Due.told("wind0 9;wind1 9;wind2 9;wind3 9;wind4 9;wind5 9;one0;one9;one0;one9;"
                + "red1 0 0;red9 3 9;pin1 0 0;pin9 3 9;red5 1 5;red5 2 5;");
        Due.is("rule(0)", y.rule(0), 4);
        Due.is("rule(1)", y.rule(1), 6);
        Due.is("count(5)", y.count(5), 54);
    }

    private static void numbersOfEachLine() {
        Due.sentence("line: one N ; | red, yellow, orphan, pin N N N ; | wind N N ; (not one more, not one less)");
        taken("one 1;", 1);
        faulty("one;", 2, 3);
        faulty("one 1 1;", 2, 6);
        taken("wind 1 1;", 1);
        faulty("wind;", 2, 4);
        faulty("wind 1;", 2, 6);
        faulty("wind 1 1 1;", 2, 9);
        for (String name : new String[] {"red", "yellow", "orphan", "pin"}) {
            int n = name.length();
            taken("one 1;" + name + " 1 0 1;", 2);
            faulty(name + ";", 2, n);
            faulty(name + " 1;", 2, n + 2);
            faulty(name + " 1 0;", 2, n + 4);
            faulty(name + " 1 0 1 1;", 2, n + 7);
        }
    }

    private static void firstMetAsItIsRead() {
        Due.sentence("FAULTS, the first met as it is read (a TOKEN is read when the one before has been taken)");
        faulty("one 10?", 3, 4);
        faulty("one 10 100;", 3, 4);
        faulty("one 1 10?", 2, 6);
        faulty("one ?10;", 1, 4);
        faulty("blue ?", 2, 0);
        faulty("red 1 4 10;", 3, 6);
        faulty("red 1 3 10;", 3, 8);
        faulty("red 0 4 10;", 3, 4);
        faulty("one 1;red 1 1 0;one 10;", 3, 20);
        faulty("wind 1 1;wind 1 10;", 4, 14);
        faulty("wind 1 1;wind 6 1;", 3, 14);
        faulty(FOUR_ONES + "one 10;", 5, 24);
        faulty(SIX_BEETLES + "red 0;", 5, SIX_BEETLES.length());
        faulty(FOUR_ONES + "one", 5, 24);
        faulty("wind 1 10;wind 1 1;", 3, 7);
    }

    private static void fault1() {
        Due.sentence("1 no TOKEN, a NUMBER that is too long (its first byte)");
        faulty("one 1;  ?one 1;", 1, 8);
        faulty("one -1;", 1, 4);
        faulty("one +1;", 1, 4);
        faulty("one 1.", 1, 5);
        faulty("one\t1;", 1, 3);
        faulty("one 1;\n", 1, 6);
        faulty("one   123;", 1, 6);
        faulty("one 1;  123", 1, 8);
        faulty("red 1 0 100;", 1, 8);
        // two figures are no NUMBER too long: that one can not stand there
        faulty("one 1;  12", 2, 8);
        faulty("one 1 123;", 1, 6);
    }

    private static void fault2AtTheEnd() {
        Due.sentence("2 a TOKEN that can not stand there (or the end: the length)");
        faulty("one", 2, 3);
        faulty("one   ", 2, 6);
        faulty("one 1", 2, 5);
        faulty("one 1 ", 2, 6);
        faulty("red 1 ", 2, 6);
        faulty("one 1;wind 1 2", 2, 14);
    }

    /** Each TOKEN of each line left out, or in its place each sort that is not due there. */
    private static void everyTokenOfEveryLine() {
        String ahead = "one 1;one 2; ";
        for (String line : new String[] {"one 3 ;", "red 4 0 5 ;", "yellow 6 1 7 ;", "orphan 8 0 9 ;", "pin 1 1 0 ;",
            "wind 2 3 ;"}) {
            taken(ahead + line, 3);
            String[] tokens = line.split(" ");
            StringBuilder before = new StringBuilder(ahead);
            for (int i = 0; i < tokens.length; i++) {
                String here = "'" + tokens[i] + "' of '" + line + "'";
                Due.sentence("2 at the end: ahead of " + here);
                if (i > 0) {
                    faulty(before.toString(), 2, before.length());
                    faulty(before.toString().trim(), 2, before.length() - 1);
                }
                boolean isNumber = tokens[i].matches("[0-9]");
                for (String other : new String[] {"?", "123", "zz", "one", "7", ";"}) {
                    boolean isNone = other.equals("?") || other.equals("123");
                    boolean isDue = i == 0 && other.equals("one") || isNumber && other.equals("7")
                            || other.equals(tokens[i]);
                    if (!isDue) {
                        Due.sentence((isNone ? "1: '" : "2: '") + other + "' in place of " + here);
                        faulty(before + other + " ;", isNone ? 1 : 2, before.length());
                    }
                }
                before.append(tokens[i]).append(' ');
            }
        }
    }

    private static void fault3() {
        Due.sentence("3 a NUMBER out of its bounds: one: a ONE more: his PLACE");
        taken("one 0;one 9;", 2);
        faulty("one 10;", 3, 4);
        faulty("one 99;", 3, 4);
        for (String name : new String[] {"red", "yellow", "orphan", "pin"}) {
            int n = name.length();
            Due.sentence("3 a NUMBER out of its bounds: " + name + ": SPOTS, OWNER (0 to 3), AT");
            taken(FOUR_ONES + name + " 1 0 0;" + name + " 9 3 9;", 6);
            faulty(name + " 0 0 0;", 3, n + 1);
            faulty(name + " 10 0 0;", 3, n + 1);
            faulty(name + " 1 4 0;", 3, n + 3);
            faulty(name + " 1 3 10;", 3, n + 5);
        }
        Due.sentence("3 a NUMBER out of its bounds: wind: which (0 to 5), how strong");
        taken("wind 0 0;wind 5 9;", 2);
        faulty("wind 6 0;", 3, 5);
        faulty("wind 5 10;", 3, 7);
    }

    private static void fault4() {
        Due.sentence("4 a WIND that is told already (it)");
        for (int k = 0; k <= 5; k++) {
            faulty("wind " + k + " 3;wind " + k + " 3;", 4, 14);
            faulty("wind " + k + " 0;one 1; wind  " + k + " 0;", 4, 22);
            taken("wind " + k + " 3;wind " + (k + 1) % 6 + " 3;", 2);
        }
        taken("wind 5 1;wind 4 1;wind 3 1;wind 2 1;wind 1 1;wind 0 1;", 6);
        faulty("wind 5 1;wind 4 1;wind 3 1;wind 2 1;wind 1 1;wind 0 1;wind 0 1;", 4, 59);
        faulty("wind 05 1;wind 5 1;", 4, 15);
        // told by another text is not told by this one
        SorrowSpots x = Due.told("wind 3 1;");
        Due.is("text()", Due.tell(x, "wind 3 2;"), 1);
        faulty(x, "wind 2 1;?", 1, 9);
        Due.is("text()", Due.tell(x, "wind 2 7;"), 1);
        Due.is("wind(2)", x.wind(2), 7);
    }

    private static void fault5() {
        Due.sentence("5 the 5th ONE, the 7th BEETLE (its NAME)");
        taken(FOUR_ONES, 4);
        faulty(FOUR_ONES + "one 4;", 5, 24);
        faulty(FOUR_ONES + "  one 4;", 5, 26);
        taken(FOUR_ONES + SIX_BEETLES, 10);
        for (String name : new String[] {"red", "yellow", "orphan", "pin"}) {
            faulty(FOUR_ONES + SIX_BEETLES + name + " 1 0 0;", 5, 24 + SIX_BEETLES.length());
            faulty(SIX_BEETLES + " " + name + " 1 0 0;", 5, SIX_BEETLES.length() + 1);
        }
        // a WIND and a ONE still may come behind the 6th BEETLE, a BEETLE behind the 4th ONE
        taken(SIX_BEETLES + "wind 0 1;one 1;", 8);
        taken(FOUR_ONES + "wind 0 1;red 1 0 1;", 6);
        // those of the text before do not count
        SorrowSpots x = Due.told(FOUR_ONES + SIX_BEETLES);
        Due.is("again", Due.tell(x, FOUR_ONES + SIX_BEETLES), 10);
    }

    private static void fault6() {
        Due.sentence("Behind all (the length): 6 a ONE that there is not");
        faulty("red 1 0 0;", 6, 10);
        faulty("red 1 0 0;   ", 6, 13);
        String people = "";
        for (int many = 1; many <= 3; many++) {
            people += "one 1;";
            taken(people + "pin 1 " + (many - 1) + " 0;", many + 1);
            faulty(people + "pin 1 " + many + " 0;", 6, people.length() + 10);
            faulty("pin 1 " + many + " 0;" + people, 6, people.length() + 10);
            taken("pin 1 " + (many - 1) + " 0;" + people, many + 1);
        }
        faulty("one 1;red 1 0 0;red 1 1 0;red 1 0 0;", 6, 36);
        // behind all others
        faulty("red 1 0 0;?", 1, 10);
        faulty("red 1 0 0;one", 2, 13);
        // the ONES of the text before are none of this one
        SorrowSpots x = Due.told("one 1;one 2;");
        faulty(x, "one 1;red 1 1 0;", 6, 16);
        Due.is("that which was told stays: rule(0)", x.rule(0), 2);
    }

    private static void tellsAllInPlaceOfWhatThereWas() {
        Due.sentence("A text that is taken tells all, in place of what there was (what it does not tell is as at first)");
        SorrowSpots x = Due.told("one 5;one 6;one 7;wind 0 1;wind 5 9;");
        x.dab(3, 9, 2);
        x.dab(2, 8, 1);
        x.days(7);
        Due.is("text()", Due.tell(x, "one 8;wind 5 2;red 3 0 4;"), 3);
        Due.is("rule(0)", x.rule(0), 1);
        Due.is("one(0, 0)", x.one(0, 0), 8);
        Due.is("one(0, 1)", x.one(0, 1), 0);
        Due.is("one(1, 0)", x.one(1, 0), BAD);
        Due.is("rule(1)", x.rule(1), 1);
        int[] due = {0, 3, 0, 4, NONE, 0, 3};
        for (int what = 0; what < due.length; what++) {
            Due.is("beetle(0, " + what + ")", x.beetle(0, what), due[what]);
        }
        Due.is("rule(2)", x.rule(2), 0);
        Due.is("rule(3)", x.rule(3), 0);
        Due.is("wind(0)", x.wind(0), 0);
        Due.is("wind(5)", x.wind(5), 2);
    }

    private static void nothingIsSeenImagesAreGone() {
        Due.sentence("A text that is taken: nothing is SEEN; IMAGES are gone (not by a FAULT)");
        SorrowSpots x = Due.told("one 5;");
        x.see(0, 0, 9);
        x.keep(0);
        x.keep(1);
        faulty(x, "one", 2, 3);
        Due.is("count(0)", x.count(0), 1);
        Due.is("count(1)", x.count(1), 2);
        Due.is("back(1)", x.back(1), 0);
        Due.is("text() of nothing", x.text(), 0);
        Due.is("count(0)", x.count(0), 0);
        Due.is("count(1)", x.count(1), 0);
        Due.is("back(0)", x.back(0), STATE);
        Due.is("back(1)", x.back(1), STATE);
        Due.is("keep(0)", x.keep(0), 0);
    }

    private static void sheetsStay() {
        Due.sentence("A text that is taken: SHEETS stay");
        SorrowSpots x = new SorrowSpots();
        x.sheet(0, 0, 3);
        x.sheet(3, 2, 4);
        x.lay(3, 1, 6);
        Due.is("text()", Due.tell(x, "one 5;"), 1);
        Due.is("count(3)", x.count(3), 3);
        Due.is("read(3, 2, 0, 1)", x.read(3, 2, 0, 1), 1);
        Due.is("beetle(0, 1)", x.beetle(0, 1), 6);
        faulty(x, "?", 1, 0);
        Due.is("count(3)", x.count(3), 3);
        Due.is("lay(1, 0, 0)", x.lay(1, 0, 0), -11);
    }
}
