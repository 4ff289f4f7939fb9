/** Promises 6 to 8, and what "Terms" says of texts: each bound of each number, each token, each fault and its place. */
public final class EdgeTextTest {
    private static final int BAD = OrchardWall.BAD, STATE = OrchardWall.STATE, FULL = OrchardWall.FULL;
    private static final String LAW = "o0,1,1,0,0;";
    // As long as an orchard can be: 113 bytes.
    private static final String LONGEST = "o00,01,60,09,40;h00,09;h01,09;h02,09;t00,30,09;t02,30,09;t03,30,09;"
            + "t04,30,09;t05,30,09;t23,30,09;p20;q20;s20;w20;";
    private static final Check check = new Check();

    public static void main(String[] args) {
        theTapeHas120Bytes();
        feedIsRefused();
        tokensAreTheseAndNothingElse();
        numbersHaveTwoFiguresAtMost();
        anOrchardIsInOrder();
        theLawHasBounds();
        hensHaveBounds();
        treesHaveBounds();
        treesHaveCellsOfTheirOwn();
        raidersHaveBounds();
        thereIsRoomForSoMany();
        theTapeIsEmptyThen();
        theAnswerTellsThePlace();
        faultsOfTokens();
        theEndIsAFault();
        faultsOfNumbers();
        faultsOfRoom();
        theFirstTokenCounts();
        theLeastFaultCounts();
        faultIsTheLatest();
        allStaysBehindAFault();
        aNewOrchardStandsInPlace();
        check.end();
    }

    private static void faulty(String text, int place, int number) {
        OrchardWall x = new OrchardWall();
        check.due(text, Check.tell(x, text), -1000100 - place);
        check.due("fault of " + text, x.fault(), number);
        check.due("no orchard by " + text, x.ahead(0), STATE);
    }

    private static void fine(String text, int trees) {
        OrchardWall x = new OrchardWall();
        check.due(text, Check.tell(x, text), trees);
        check.due("fault of " + text, x.fault(), 0);
        check.due("an orchard by " + text, x.ahead(0), 0);
    }

    /** A text of which one number can be from low to high: all numbers of one or two figures are tried. */
    private static void bounds(String ahead, String behind, int low, int high, int trees) {
        for (int number = 0; number <= 99; number++) {
            if (number >= low && number <= high) {
                fine(ahead + number + behind, trees);
            } else {
                faulty(ahead + number + behind, ahead.length(), 2);
            }
        }
    }

    private static void theTapeHas120Bytes() {
        check.says("Terms 1", "TEXTS: THE TAPE has at most 120 bytes, that come one by one;");
        check.says("Promise 6", "A byte (0 to 255) comes behind the tape: how many it has.");
        OrchardWall x = new OrchardWall();
        for (int bytes = 1; bytes <= 120; bytes++) {
            check.due("byte " + bytes, x.feed(bytes % 2 == 0 ? 0 : 255), bytes);
        }
        check.due("bytes", x.count(8), 120);
        check.due("byte 121", x.feed('o'), FULL);
        check.due("bytes yet", x.count(8), 120);
        check.due("the longest orchard", LONGEST.length(), 113);
        fine(LONGEST, 6);
        faulty(LONGEST + "       ", 113, 1);
    }

    private static void feedIsRefused() {
        check.says("Promise 6", "BAD; FULL.");
        OrchardWall x = new OrchardWall();
        check.due("0", x.feed(0), 1);
        check.due("-1", x.feed(-1), BAD);
        check.due("255", x.feed(255), 2);
        check.due("256", x.feed(256), BAD);
        check.due("the lowest bits are a letter", x.feed(256 + 'o'), BAD);
        check.due("least", x.feed(Integer.MIN_VALUE), BAD);
        check.due("greatest", x.feed(Integer.MAX_VALUE), BAD);
        check.due("bytes", x.count(8), 2);
        for (int bytes = 2; bytes < 120; bytes++) {
            x.feed('o');
        }
        check.due("full", x.feed(255), FULL);
        check.due("BAD ahead of FULL", x.feed(256), BAD);
    }

    private static void tokensAreTheseAndNothingElse() {
        check.says("Terms 1", "TOKENS: letters a to z (each by itself), NUMBERS (figures, 2 at most), SIGNS , and ;"
                + " nothing else.");
        for (char letter = 0; letter <= 255; letter++) {
            if (letter != 'o') {
                faulty(letter + LAW.substring(1), 0, 1);
            }
            if (letter < '0' || letter > '9') {
                faulty("o" + letter + ",1,1,0,0;", 1, 1);
            }
            if (letter != ',' && (letter < '0' || letter > '9')) {
                faulty("o2" + letter + "1,1,0,0;", 2, 1);
            }
            boolean begins = "htpqswk".indexOf(letter) >= 0;
            // What can begin something behind the law is missed behind itself; all else is a fault by itself.
            faulty(LAW + letter, begins ? 12 : 11, 1);
        }
        faulty("o 0,1,1,0,0;", 1, 1);
        faulty(LAW + "\n", 11, 1);
        // A letter by itself: a second one is a token of its own.
        faulty(LAW + "pp1;", 12, 1);
    }

    private static void numbersHaveTwoFiguresAtMost() {
        check.says("Terms 1", "NUMBERS (figures, 2 at most)");
        fine("o5,6,7,8,9;", 0);
        fine("o05,06,07,08,09;", 0);
        faulty("o005,6,7,8,9;", 1, 1);
        faulty("o5,006,7,8,9;", 3, 1);
        faulty("o5,6,007,8,9;", 5, 1);
        faulty("o5,6,7,008,9;", 7, 1);
        faulty("o5,6,7,8,009;", 9, 1);
        faulty(LAW + "h005,1;", 12, 1);
        faulty(LAW + "h5,001;", 14, 1);
        faulty(LAW + "t005,1,1;", 12, 1);
        faulty(LAW + "t5,001,1;", 14, 1);
        faulty(LAW + "t5,1,001;", 16, 1);
        faulty(LAW + "p001;", 12, 1);
        faulty("o" + "0".repeat(100), 1, 1);
        faulty("o5,-6,7,8,9;", 3, 1);
        faulty("o,6,7,8,9;", 1, 1);
    }

    private static void anOrchardIsInOrder() {
        check.says("Terms 1", "orchard: law { hens } { tree } { raider }.");
        fine(LAW, 0);
        fine(LAW + "h0,1;", 0);
        fine(LAW + "t2,1,1;", 1);
        fine(LAW + "p1;", 0);
        fine(LAW + "h0,1;t2,1,1;p1;", 1);
        fine(LAW + "h0,1;p1;", 0);
        faulty("", 0, 1);
        faulty("h0,1;", 0, 1);
        faulty("p1;", 0, 1);
        faulty(LAW + LAW, 11, 1);
        faulty(LAW + "t2,1,1;h0,1;", 18, 1);
        faulty(LAW + "p1;h0,1;", 14, 1);
        faulty(LAW + "p1;t2,1,1;", 14, 1);
        faulty(LAW + "h0,1;" + LAW, 16, 1);
    }

    private static void theLawHasBounds() {
        check.says("Terms 1", "law: o HOUSE , ENTRY , EARS , DELAY , DOG ; (0 to 23; 0 to 23, unlike; 1 to 60; 0 to"
                + " 9; 0 to 40).");
        for (int house = 0; house <= 23; house++) {
            int entry = (house + 1) % 24;
            fine("o" + house + "," + entry + ",1,0,0;", 0);
            faulty("o" + house + "," + house + ",1,0,0;", ("o" + house + ",").length(), 2);
        }
        faulty("o5,05,1,0,0;", 3, 2);
        faulty("o24,1,1,0,0;", 1, 2);
        faulty("o99,1,1,0,0;", 1, 2);
        bounds("o23,", ",1,0,0;", 0, 22, 0);
        bounds("o0,", ",1,0,0;", 1, 23, 0);
        bounds("o0,1,", ",0,0;", 1, 60, 0);
        bounds("o0,1,1,", ",0;", 0, 9, 0);
        bounds("o0,1,1,0,", ";", 0, 40, 0);
        faulty("o0,1,1,0;", 8, 1);
        faulty("o0,1,1,0,0,0;", 10, 1);
    }

    private static void hensHaveBounds() {
        check.says("Terms 1", "hens: h CELL , LOUD ; (0 to 23; 1 to 9; 3 at most).");
        bounds(LAW + "h", ",1;", 0, 23, 0);
        bounds(LAW + "h0,", ";", 1, 9, 0);
        fine(LAW + "h1,1;h1,1;h1,9;", 0);
        faulty(LAW + "h1,1;h1,1;h1,9;h1,1;", 26, 3);
        faulty(LAW + "h1;", 13, 1);
        faulty(LAW + "h1,1,", 15, 1);
        check.due("no hens", Check.told(LAW).count(3), 0);
        check.due("three hens", Check.told(LAW + "h0,1;h0,1;h0,1;").count(3), 3);
    }

    private static void treesHaveBounds() {
        check.says("Terms 1", "tree: t CELL , APPLES , WORTH ; (a CELL without a tree, not ENTRY; 0 to 30; 0 to 9;"
                + " TREES 0 .. 5, 6 at most).");
        bounds("o5,23,1,0,0;t", ",1,1;", 0, 22, 1);
        bounds("o5,0,1,0,0;t", ",1,1;", 1, 23, 1);
        bounds(LAW + "t2,", ",1;", 0, 30, 1);
        bounds(LAW + "t2,1,", ";", 0, 9, 1);
        faulty(LAW + "t2,1;", 15, 1);
        faulty(LAW + "t2,1,1,", 17, 1);
        OrchardWall x = Check.told(LAW + "t0,0,0;t2,30,9;t3,1,1;t4,1,1;t5,1,1;t23,7,8;");
        check.due("no apples", x.tree(0, 1), 0);
        check.due("no worth", x.tree(0, 2), 0);
        check.due("30 apples", x.tree(1, 1), 30);
        check.due("worth 9", x.tree(1, 2), 9);
        check.due("tree 5", x.tree(5, 0), 23);
        check.due("tree 6", x.tree(6, 0), BAD);
    }

    private static void treesHaveCellsOfTheirOwn() {
        check.says("Terms 1", "(a CELL without a tree, not ENTRY;");
        fine(LAW + "t0,1,1;", 1);
        fine(LAW + "h2,1;t2,1,1;", 1);
        faulty(LAW + "t1,1,1;", 12, 2);
        faulty(LAW + "t01,1,1;", 12, 2);
        faulty(LAW + "t2,1,1;t2,1,1;", 19, 2);
        faulty(LAW + "t2,1,1;t3,1,1;t4,1,1;t5,1,1;t6,1,1;t02,1,1;", 47, 2);
        faulty(LAW + "t23,1,1;t23,1,1;", 20, 2);
        // Where a tree stood in an orchard before, or in a text that was faulty, one can stand anew.
        OrchardWall x = Check.told(LAW + "t2,1,1;");
        check.due("the orchard before", Check.tell(x, LAW + "t2,1,1;"), 1);
        check.due("a faulty text", Check.tell(x, LAW + "t3,1,1;x"), -1000118);
        check.due("the same cell", Check.tell(x, LAW + "t3,1,1;"), 1);
    }

    private static void raidersHaveBounds() {
        check.says("Terms 1", "raider: SORT FULL ; (SORT: p a picker, q a quick one, s a stout one, w a watch, k a"
                + " sister; 1 to 20; RAIDERS 0 .. 3, 4 at most).");
        String sorts = "pqswk";
        for (int sort = 0; sort < 5; sort++) {
            bounds(LAW + sorts.charAt(sort), ";", 1, 20, 0);
            OrchardWall x = Check.told(LAW + sorts.charAt(sort) + "20;");
            check.due("kind by " + sorts.charAt(sort), x.kind(0), sort + 1);
            check.due("full", x.raider(0, 0), 20);
        }
        for (char letter = 'a'; letter <= 'z'; letter++) {
            if (sorts.indexOf(letter) < 0) {
                faulty(LAW + "p1;" + letter + "1;", 14, 1);
            }
        }
        faulty(LAW + "p1,", 13, 1);
        OrchardWall x = Check.told(LAW + "p1;p1;p1;k7;");
        check.due("raider 3", x.raider(3, 0), 7);
        check.due("raider 4", x.raider(4, 0), BAD);
    }

    private static void thereIsRoomForSoMany() {
        check.says("Terms 1", "3 hens, a tree, a raider more than there is room for (its letter).");
        String hens = "h0,1;h0,1;h0,1;";
        String trees = "t0,1,1;t2,1,1;t3,1,1;t4,1,1;t5,1,1;t6,1,1;";
        String raiders = "p1;q1;s1;w1;";
        fine(LAW + hens + trees + raiders, 6);
        faulty(LAW + hens + "h", 26, 3);
        faulty(LAW + hens + "h0,1;" + trees, 26, 3);
        faulty(LAW + trees + "t", 53, 3);
        faulty(LAW + trees + "t7,1,1;", 53, 3);
        for (char sort : "pqswk".toCharArray()) {
            faulty(LAW + raiders + sort, 23, 3);
            faulty(LAW + raiders + sort + "1;", 23, 3);
        }
        faulty(LONGEST + "k", 113, 3);
    }

    private static void theTapeIsEmptyThen() {
        check.says("Promise 7", "The tape, empty then, is read: how many TREES there are.");
        OrchardWall x = new OrchardWall();
        check.due("no trees", Check.tell(x, LAW), 0);
        check.due("bytes", x.count(8), 0);
        check.due("six trees", Check.tell(x, LONGEST), 6);
        check.due("bytes", x.count(8), 0);
        check.due("a fault", Check.tell(x, "x"), -1000100);
        check.due("bytes behind a fault", x.count(8), 0);
        check.due("an empty tape", x.orchard(), -1000100);
        check.due("the next byte is the first", x.feed('o'), 1);
        Check.feed(x, LAW.substring(1));
        check.due("nothing of before", x.orchard(), 0);
        Tellings.fullTape(x);
        check.due("a full tape", x.orchard(), -1000111);
        check.due("not full then", x.feed('o'), 1);
    }

    private static void theAnswerTellsThePlace() {
        check.says("Promise 7", "-1000100 less the place of a FAULT:");
        check.due("place 0", Check.told("").orchard(), -1000100);
        check.due("place 1", Check.tell(new OrchardWall(), "o"), -1000101);
        check.due("place 112", Check.tell(new OrchardWall(), LONGEST.substring(0, 112)), -1000212);
        check.due("place 113", Check.tell(new OrchardWall(), LONGEST + "0000000"), -1000213);
    }

    private static void faultsOfTokens() {
        check.says("Terms 1", "1 it cannot stand there, or is none (a run of three figures, at its first;");
        faulty("p", 0, 1);
        faulty("o,", 1, 1);
        faulty("o0;", 2, 1);
        faulty("o0,,", 3, 1);
        faulty("o0,1;", 4, 1);
        faulty("o0,1,1,0,0,", 10, 1);
        faulty(LAW + "1", 11, 1);
        faulty(LAW + ",", 11, 1);
        faulty(LAW + ";", 11, 1);
        faulty(LAW + "{", 11, 1);
        faulty(LAW + "`", 11, 1);
        faulty(LAW + "P1;", 11, 1);
        faulty("o0,1,123,0,0;", 5, 1);
        faulty("o0,1,1234,0,0;", 5, 1);
        faulty("123", 0, 1);
        faulty(LAW + "000", 11, 1);
    }

    private static void theEndIsAFault() {
        check.says("Terms 1", "the end: how many bytes there are);");
        String text = "o5,12,12,3,12;h12,3;t13,12,3;p12;";
        for (int bytes = 0; bytes <= text.length(); bytes++) {
            String part = text.substring(0, bytes);
            if (part.endsWith(";")) {
                fine(part, part.contains("t") ? 1 : 0);
            } else {
                faulty(part, bytes, 1);
            }
        }
    }

    private static void faultsOfNumbers() {
        check.says("Terms 1", "2 a NUMBER that is not as told;");
        faulty("o24,1,1,0,0;", 1, 2);
        faulty("o0,0,1,0,0;", 3, 2);
        faulty("o0,24,1,0,0;", 3, 2);
        faulty("o0,1,0,0,0;", 5, 2);
        faulty("o0,1,00,0,0;", 5, 2);
        faulty("o0,1,61,0,0;", 5, 2);
        faulty("o0,1,1,10,0;", 7, 2);
        faulty("o0,1,1,0,41;", 9, 2);
        faulty(LAW + "h24,1;", 12, 2);
        faulty(LAW + "h0,0;", 14, 2);
        faulty(LAW + "h0,10;", 14, 2);
        faulty(LAW + "t24,1,1;", 12, 2);
        faulty(LAW + "t2,31,1;", 14, 2);
        faulty(LAW + "t2,1,10;", 16, 2);
        faulty(LAW + "p0;", 12, 2);
        faulty(LAW + "p21;", 12, 2);
    }

    private static void faultsOfRoom() {
        check.says("Terms 1", "(its letter).");
        // Its letter, not what is behind it.
        faulty(LAW + "h0,1;h0,1;h0,1;h99,99;", 26, 3);
        faulty(LAW + "t0,1,1;t2,1,1;t3,1,1;t4,1,1;t5,1,1;t6,1,1;t0", 53, 3);
        faulty(LAW + "p1;p1;p1;p1;p0;", 23, 3);
    }

    private static void theFirstTokenCounts() {
        check.says("Terms 1", "FAULTS, the first TOKEN that has one (its first byte),");
        faulty("o24,24,0,10,41;h", 1, 2);
        faulty("o0,1,61,999", 5, 2);
        faulty("o0,1,999,0,41;", 5, 1);
        faulty(LAW + "p0p1;p1;p1;p1;p1;", 12, 2);
        faulty(LAW + "h0,1;h0,1;h0,1;h24,1;", 26, 3);
        faulty(LAW + "p1;p1;p1;p1;p1;t2,1,1;", 23, 3);
        faulty(LAW + "t24x", 12, 2);
        faulty(LAW + "t2,1,99" + (char) 0, 16, 2);
    }

    private static void theLeastFaultCounts() {
        check.says("Terms 1", "of one TOKEN the least:");
        // A number that is not as told, were it one.
        faulty("o999,1,1,0,0;", 1, 1);
        faulty(LAW + "p021;", 12, 1);
        // A number that is not as told anywhere, where none can stand.
        faulty(LAW + "99", 11, 1);
        faulty(LAW + "h1,1;99", 16, 1);
        // Hens, a tree for which there is no room, where none can stand.
        faulty(LAW + "h0,1;h0,1;h0,1;t2,1,1;h0,1;", 33, 1);
        faulty(LAW + "h0,1;h0,1;h0,1;p1;h0,1;", 29, 1);
        faulty(LAW + "t0,1,1;t2,1,1;t3,1,1;t4,1,1;t5,1,1;t6,1,1;p1;t7,1,1;", 56, 1);
        faulty(LAW + "p1;p1;p1;p1;h", 23, 1);
        faulty(LAW + "p1;p1;p1;p1;t", 23, 1);
    }

    private static void faultIsTheLatest() {
        check.says("Promise 8", "The number of the latest FAULT; 0 before one.");
        OrchardWall x = new OrchardWall();
        check.due("before any text", x.fault(), 0);
        Check.tell(x, LAW);
        check.due("before a fault", x.fault(), 0);
        Check.tell(x, LAW + "p1;p1;p1;p1;p");
        check.due("no room", x.fault(), 3);
        Check.tell(x, LAW);
        check.due("a text without one", x.fault(), 3);
        Check.tell(x, "o24");
        check.due("a number", x.fault(), 2);
        Check.tell(x, "x");
        check.due("a token", x.fault(), 1);
        Check.tell(x, "o24");
        check.due("a number anew", x.fault(), 2);
        Check.feed(x, "x");
        check.due("what is not read yet", x.fault(), 2);
    }

    private static void allStaysBehindAFault() {
        check.says("Promise 7", "less the place of a FAULT: all stays.");
        // The fault of before is the same, and the tape is empty, so that all else must be.
        Twins twins = new Twins(check, x -> {
            Tellings.rich(x);
            x.feed('x');
            x.orchard();
        });
        twins.refused("an empty tape", x -> x.orchard(), -1000100);
        twins.refused("a law alone", x -> Check.tell(x, "o9,8,7,6,5;x"), -1000111);
        twins.refused("up to the end", x -> Check.tell(x, "o9,8,7,6,5;h1,1;t2,9,9;k9"), -1000125);
    }

    private static void aNewOrchardStandsInPlace() {
        check.says("Terms 1", "A ORCHARD that is read stands in place of the one before (none at first): nobody has"
                + " a PLAN, nothing was GOT, nobody CAUGHT, no RAIDS; THE BOOK stays; no ACT can be undone.");
        OrchardWall x = Check.told("o0,1,1,9,0;h5,9;t2,9,1;t3,9,9;p9;q9;");
        x.plan(0, 0, 9, 1);
        x.plan(1, 1, 3, 1);
        x.raid();
        x.write(3, 1);
        check.due("it got something", x.count(5), 10);
        check.due("it was caught", x.raider(0, 4), 1);
        check.due("read", Check.tell(x, "o0,1,9,9,40;t4,8,2;t5,7,3;p9;q9;"), 2);
        for (int raider = 0; raider < 2; raider++) {
            check.due("no tree", x.raider(raider, 1), -1);
            check.due("no apples", x.raider(raider, 2), 0);
            check.due("no how", x.raider(raider, 3), 0);
            check.due("never caught", x.raider(raider, 4), 0);
        }
        check.due("nothing got", x.count(5), 0);
        check.due("no raids", x.count(4), 0);
        check.due("no hens", x.count(3), 0);
        check.due("no acts", x.count(7), 0);
        check.due("undo", x.undo(), STATE);
        check.due("raid", x.raid(), STATE);
        check.due("the book", x.count(6), 1);
        check.due("its line", x.sleep(3, 0), 1);
        check.due("tree 0", x.tree(0, 0), 4);
        check.due("its apples", x.tree(0, 1), 8);
        x.plan(0, 0, 1, 0);
        check.due("the law is new, and no hen is there", x.ahead(2), OrchardWall.NONE);
        check.due("fewer trees", Check.tell(x, LAW + "p1;"), 0);
        check.due("tree 0 is none", x.tree(0, 0), BAD);
        check.due("raider 1 is none", x.raider(1, 0), BAD);
        check.due("hens", Check.tell(x, LAW + "h0,1;t2,1,1;p1;"), 1);
        check.due("none of all", Check.tell(x, LAW), 0);
        check.due("no hens", x.count(3), 0);
        check.due("no trees", x.count(1), 0);
        check.due("no raiders", x.count(2), 0);
        check.due("raider 0 is none", x.raider(0, 0), BAD);
    }
}
