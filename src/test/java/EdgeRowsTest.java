/** Promises 1 to 5 and 37, and what "Terms" says of rows: the last that is allowed, the first that is not. */
public final class EdgeRowsTest {
    private static final int BAD = OrchardWall.BAD, STATE = OrchardWall.STATE, NONE = OrchardWall.NONE;
    private static final int NULL = -1000011, PLACE = -1000012, SIZE = -1000014, STORE = -1000015;
    private static final int LEAST = Integer.MIN_VALUE, GREATEST = Integer.MAX_VALUE;
    private static final int SCRATCH = 7;
    private static final Check check = new Check();

    public static void main(String[] args) {
        aNewObjectHasNoOrchard();
        anObjectIsGoodFor512Calls();
        rowsAreMissingAtFirst();
        itemsAreZeroAtFirst();
        aRowStandsInPlaceOfAnother();
        rowIsRefused();
        lowestBitsAreKept();
        setIsRefused();
        copiesAreAsTheyWereAhead();
        copiesOfNoneAndOfAll();
        copyIsRefused();
        copyDoesNotWrapAround();
        rowsAreDropped();
        dropIsRefused();
        statusIsOfTheLatestCallWithARow();
        statusLeavesOutWhatIsRefused();
        statusLeavesOutCallsWithoutARow();
        statusIsZeroBeforeAny();
        check.end();
    }

    /** Three raiders without plans: shares() is not NONE if three items are 0 together, so any item can be read. */
    private static OrchardWall readable() {
        return Check.told("o0,1,1,0,0;p1;p1;p1;");
    }

    private static void isItem(OrchardWall x, int row, int lane, int i, int v) {
        long less = -(long) v;
        x.row(SCRATCH, lane, 3);
        x.copy(row, i, SCRATCH, 0, 1);
        x.set(SCRATCH, 1, (int) (less / 2));
        x.set(SCRATCH, 2, (int) (less - less / 2));
        check.holds("item " + i + " of row " + row + " is " + v, x.shares(SCRATCH, 0) != NONE);
    }

    private static void areItems(OrchardWall x, int row, int lane, int... items) {
        for (int i = 0; i < items.length; i++) {
            isItem(x, row, lane, i, items[i]);
        }
        check.due("row " + row + " ends there", x.set(row, items.length, 0), PLACE);
    }

    private static void aNewObjectHasNoOrchard() {
        check.says("Promise 1", "No ORCHARD.");
        OrchardWall x = new OrchardWall();
        check.due("ahead", x.ahead(0), STATE);
        check.due("raid", x.raid(), STATE);
        check.due("bare", x.bare(0), STATE);
        check.due("image", x.image(0), STATE);
        check.due("trees", x.count(1), 0);
        check.due("raiders", x.count(2), 0);
        check.due("tree 0", x.tree(0, 0), BAD);
        check.due("raider 0", x.raider(0, 0), BAD);
    }

    private static void anObjectIsGoodFor512Calls() {
        check.says("What it is", "An object is used for at most 512 calls after it has been made");
        OrchardWall x = new OrchardWall();
        String text = "o0,1,60,0,40;t2,30,1;p20;";
        Check.tell(x, text);
        for (int made = text.length() + 1; made < 510; made++) {
            x.plan(0, 0, 1 + made % 20, made % 2);
        }
        check.due("call 511", x.plan(0, 0, 20, 0), 1);
        check.due("call 512", x.ahead(0), 20);
    }

    private static void rowsAreMissingAtFirst() {
        check.says("Terms 1", "ROWS 0 .. 7 are missing (at first),");
        OrchardWall x = new OrchardWall();
        check.due("none is there", x.count(0), 0);
        for (int row = 0; row <= 7; row++) {
            check.due("drop " + row, x.drop(row), NULL);
        }
        check.due("row -1 is none", x.drop(-1), BAD);
        check.due("row 8 is none", x.drop(8), BAD);
        for (int row = 0; row <= 7; row++) {
            check.due("row " + row, x.row(row, 0, 1), 1);
            check.due("rows", x.count(0), row + 1);
        }
    }

    private static void itemsAreZeroAtFirst() {
        check.says("Terms 1", "or have a LANE (0 bytes, 1 shorts, 2 ints) and 0 to 40 ITEMS, 0 at first.");
        for (int lane = 0; lane <= 2; lane++) {
            OrchardWall x = readable();
            check.due("40 items", x.row(0, lane, 40), 40);
            isItem(x, 0, lane, 0, 0);
            isItem(x, 0, lane, 39, 0);
            check.due("the last place", x.set(0, 39, 1), 1);
            check.due("behind it", x.set(0, 40, 1), PLACE);
            check.due("40 items anew", x.row(0, lane, 40), 40);
            isItem(x, 0, lane, 39, 0);
            check.due("no items", x.row(0, lane, 0), 0);
            check.due("no place", x.set(0, 0, 1), PLACE);
            check.due("it is there", x.drop(0), 0);
        }
        OrchardWall x = new OrchardWall();
        x.row(0, 0, 1);
        x.row(1, 1, 1);
        x.row(2, 2, 1);
        check.due("a byte", x.set(0, 0, 65536 + 256 + 1), 1);
        check.due("a short", x.set(1, 0, 65536 + 256 + 1), 257);
        check.due("an int", x.set(2, 0, 65536 + 256 + 1), 65793);
    }

    private static void aRowStandsInPlaceOfAnother() {
        check.says("Promise 2", "A ROW of a LANE with n ITEMS, in place of what is there: n.");
        OrchardWall x = readable();
        Check.fillLane(x, 0, 2, 70000, 70001, 70002, 70003);
        check.due("fewer items", x.row(0, 1, 2), 2);
        areItems(x, 0, 1, 0, 0);
        check.due("of another lane", x.set(0, 1, 70000), 4464);
        check.due("more items", x.row(0, 2, 4), 4);
        areItems(x, 0, 2, 0, 0, 0, 0);
        check.due("one row yet, and the one to read by", x.count(0), 2);
    }

    private static void rowIsRefused() {
        check.says("Promise 2", "BAD: ROW, LANE, n above 40; SIZE.");
        OrchardWall x = new OrchardWall();
        check.due("row 7", x.row(7, 0, 1), 1);
        check.due("row 8", x.row(8, 0, 1), BAD);
        check.due("row -1", x.row(-1, 0, 1), BAD);
        check.due("row least", x.row(LEAST, 0, 1), BAD);
        check.due("row greatest", x.row(GREATEST, 0, 1), BAD);
        check.due("lane 2", x.row(0, 2, 1), 1);
        check.due("lane 3", x.row(0, 3, 1), BAD);
        check.due("lane -1", x.row(0, -1, 1), BAD);
        check.due("40", x.row(0, 0, 40), 40);
        check.due("41", x.row(0, 0, 41), BAD);
        check.due("greatest", x.row(0, 0, GREATEST), BAD);
        check.due("0", x.row(0, 0, 0), 0);
        check.due("-1", x.row(0, 0, -1), SIZE);
        check.due("least", x.row(0, 0, LEAST), SIZE);
        check.due("-1 of no row", x.row(8, 0, -1), BAD);
        check.due("-1 of no lane", x.row(0, 3, -1), BAD);
    }

    private static void lowestBitsAreKept() {
        check.says("Promise 3", "ITEM i becomes v, its lowest bits, as many as the LANE has: what it is then.");
        becomes(0, 127, 127);
        becomes(0, 128, -128);
        becomes(0, 255, -1);
        becomes(0, 256, 0);
        becomes(0, -128, -128);
        becomes(0, -129, 127);
        becomes(0, GREATEST, -1);
        becomes(0, LEAST, 0);
        becomes(1, 32767, 32767);
        becomes(1, 32768, -32768);
        becomes(1, 65535, -1);
        becomes(1, 65536, 0);
        becomes(1, -32768, -32768);
        becomes(1, -32769, 32767);
        becomes(1, GREATEST, -1);
        becomes(1, LEAST, 0);
        becomes(2, 65536, 65536);
        becomes(2, GREATEST, GREATEST);
        becomes(2, LEAST, LEAST);
        becomes(2, -1, -1);
    }

    private static void becomes(int lane, int v, int then) {
        OrchardWall x = readable();
        x.row(0, lane, 3);
        check.due("lane " + lane + ", " + v, x.set(0, 1, v), then);
        areItems(x, 0, lane, 0, then, 0);
    }

    private static void setIsRefused() {
        check.says("Promise 3", "BAD: ROW; NULL; PLACE.");
        OrchardWall x = new OrchardWall();
        x.row(7, 0, 40);
        check.due("row 7, place 39", x.set(7, 39, 1), 1);
        check.due("place 40", x.set(7, 40, 1), PLACE);
        check.due("place 0", x.set(7, 0, 1), 1);
        check.due("place -1", x.set(7, -1, 1), PLACE);
        check.due("place least", x.set(7, LEAST, 1), PLACE);
        check.due("place greatest", x.set(7, GREATEST, 1), PLACE);
        check.due("row 8", x.set(8, 0, 1), BAD);
        check.due("row -1", x.set(-1, 0, 1), BAD);
        check.due("missing, and no place", x.set(6, -1, 1), NULL);
        x.row(7, 0, 0);
        check.due("no items", x.set(7, 0, 1), PLACE);
    }

    private static void copiesAreAsTheyWereAhead() {
        check.says("Promise 4", "n ITEMS of a from i on come to b from j on, as they were ahead: n.");
        OrchardWall x = readable();
        Check.fill(x, 0, 1, 2, 3, 4, 5);
        check.due("towards the end", x.copy(0, 0, 0, 1, 4), 4);
        areItems(x, 0, 2, 1, 1, 2, 3, 4);
        Check.fill(x, 0, 1, 2, 3, 4, 5);
        check.due("towards the beginning", x.copy(0, 1, 0, 0, 4), 4);
        areItems(x, 0, 2, 2, 3, 4, 5, 5);
        Check.fill(x, 0, 1, 2, 3, 4, 5);
        Check.fill(x, 1, 9, 8, 7, 6);
        check.due("to another", x.copy(0, 3, 1, 1, 2), 2);
        areItems(x, 1, 2, 9, 4, 5, 6);
        areItems(x, 0, 2, 1, 2, 3, 4, 5);
        x.set(0, 3, 77);
        isItem(x, 1, 2, 1, 4);
    }

    private static void copiesOfNoneAndOfAll() {
        check.says("Promise 4", "n ITEMS of a from i on come to b from j on");
        OrchardWall x = readable();
        x.row(0, 0, 40);
        x.row(1, 0, 40);
        x.row(2, 0, 0);
        x.set(0, 0, 5);
        x.set(0, 39, 6);
        check.due("all", x.copy(0, 0, 1, 0, 40), 40);
        isItem(x, 1, 0, 0, 5);
        isItem(x, 1, 0, 39, 6);
        check.due("all onto itself", x.copy(1, 0, 1, 0, 40), 40);
        isItem(x, 1, 0, 39, 6);
        check.due("none from the end to the end", x.copy(0, 40, 1, 40, 0), 0);
        check.due("none of no items", x.copy(2, 0, 2, 0, 0), 0);
        check.due("none to no items", x.copy(0, 40, 2, 0, 0), 0);
        check.due("41 of 40", x.copy(0, 0, 1, 0, 41), PLACE);
    }

    private static void copyIsRefused() {
        check.says("Promise 4", "BAD: ROWS; NULL; STORE; PLACE (i, j, n below 0, or beyond an end).");
        OrchardWall x = new OrchardWall();
        x.row(0, 0, 3);
        x.row(1, 0, 5);
        x.row(7, 1, 5);
        check.due("from 8", x.copy(8, 0, 0, 0, 1), BAD);
        check.due("from -1", x.copy(-1, 0, 0, 0, 1), BAD);
        check.due("to 8", x.copy(0, 0, 8, 0, 1), BAD);
        check.due("to -1", x.copy(0, 0, -1, 0, 1), BAD);
        check.due("from a missing one to none", x.copy(2, 0, 8, 0, 1), BAD);
        check.due("from a missing one", x.copy(2, 0, 0, 0, 1), NULL);
        check.due("to a missing one", x.copy(0, 0, 2, 0, 1), NULL);
        check.due("from a missing one to itself, none", x.copy(2, 0, 2, 0, 0), NULL);
        check.due("of two lanes, none", x.copy(0, 0, 7, 0, 0), STORE);
        check.due("of two lanes, beyond an end", x.copy(0, 0, 7, 0, 9), STORE);
        check.due("i -1", x.copy(0, -1, 1, 0, 1), PLACE);
        check.due("j -1", x.copy(0, 0, 1, -1, 1), PLACE);
        check.due("n -1", x.copy(0, 1, 1, 1, -1), PLACE);
        check.due("to the end of a", x.copy(0, 2, 1, 0, 1), 1);
        check.due("beyond the end of a", x.copy(0, 2, 1, 0, 2), PLACE);
        check.due("to the end of b", x.copy(0, 0, 1, 2, 3), 3);
        check.due("beyond the end of b", x.copy(0, 0, 1, 3, 3), PLACE);
        check.due("none beyond the end of a", x.copy(0, 4, 1, 0, 0), PLACE);
        check.due("none beyond the end of b", x.copy(0, 0, 1, 6, 0), PLACE);
    }

    private static void copyDoesNotWrapAround() {
        check.says("Promise 4", "PLACE (i, j, n below 0, or beyond an end).");
        OrchardWall x = new OrchardWall();
        x.row(0, 0, 3);
        check.due("i greatest", x.copy(0, GREATEST, 0, 0, 1), PLACE);
        check.due("j greatest", x.copy(0, 0, 0, GREATEST, 1), PLACE);
        check.due("n greatest", x.copy(0, 1, 0, 1, GREATEST), PLACE);
        check.due("all greatest", x.copy(0, GREATEST, 0, GREATEST, GREATEST), PLACE);
        check.due("i least, n greatest", x.copy(0, LEAST, 0, 0, GREATEST), PLACE);
        check.due("n least", x.copy(0, 0, 0, 0, LEAST), PLACE);
        check.due("n least, i greatest", x.copy(0, GREATEST, 0, GREATEST, LEAST), PLACE);
        check.due("all least", x.copy(0, LEAST, 0, LEAST, LEAST), PLACE);
    }

    private static void rowsAreDropped() {
        check.says("Promise 5", "A ROW is missing from now on: how many ITEMS it had.");
        OrchardWall x = new OrchardWall();
        x.row(0, 2, 40);
        x.row(7, 0, 0);
        check.due("40 items", x.drop(0), 40);
        check.due("it is missing", x.set(0, 0, 1), NULL);
        check.due("one row yet", x.count(0), 1);
        check.due("no items", x.drop(7), 0);
        check.due("it is missing, too", x.copy(7, 0, 7, 0, 0), NULL);
        check.due("no row", x.count(0), 0);
        check.due("made anew", x.row(0, 2, 5), 5);
        check.due("dropped anew", x.drop(0), 5);
    }

    private static void dropIsRefused() {
        check.says("Promise 5", "BAD; NULL.");
        OrchardWall x = new OrchardWall();
        check.due("row 0", x.drop(0), NULL);
        check.due("row 7", x.drop(7), NULL);
        check.due("row 8", x.drop(8), BAD);
        check.due("row -1", x.drop(-1), BAD);
        check.due("row least", x.drop(LEAST), BAD);
        check.due("row greatest", x.drop(GREATEST), BAD);
    }

    /** A wall with an orchard of a tree and a picker, rows 0 (bytes) and 1 (shorts) of six items. */
    private static OrchardWall withRows() {
        OrchardWall x = Check.told("o0,1,1,0,0;t2,9,1;p1;");
        x.row(0, 0, 6);
        x.row(1, 1, 6);
        return x;
    }

    private static void statusIs(OrchardWall x, int number) {
        check.due("status", x.status(), number);
        check.due("status, asked again", x.status(), number);
    }

    private static void statusIsOfTheLatestCallWithARow() {
        check.says("Promise 37", "Of the latest call with a ROW, or as(), that was not BAD, STATE, FULL: the number"
                + " of its FINDING; 0: it had none,");
        OrchardWall x = withRows();
        check.due("row, SIZE", x.row(0, 0, -1), SIZE);
        statusIs(x, 4);
        check.due("row", x.row(2, 0, 0), 0);
        statusIs(x, 0);
        check.due("set, PLACE", x.set(0, 6, 1), PLACE);
        statusIs(x, 2);
        check.due("set", x.set(0, 5, 1), 1);
        statusIs(x, 0);
        check.due("copy, STORE", x.copy(0, 0, 1, 0, 1), STORE);
        statusIs(x, 5);
        check.due("copy", x.copy(0, 0, 0, 0, 0), 0);
        statusIs(x, 0);
        check.due("drop, NULL", x.drop(7), NULL);
        statusIs(x, 1);
        check.due("drop", x.drop(2), 0);
        statusIs(x, 0);
        check.due("as, KIND", x.as(0, 4), -1000013);
        statusIs(x, 3);
        check.due("as", x.as(0, 1), 0);
        statusIs(x, 0);
        statusOfRowsThatTell(x);
    }

    private static void statusOfRowsThatTell(OrchardWall x) {
        check.due("days, PLACE", x.days(0, 1, 1), PLACE);
        statusIs(x, 2);
        check.due("days", x.days(1, 0, 1), 63);
        statusIs(x, 0);
        check.due("daysValue, NULL", x.daysValue(7, 0, 1, -1, 0), NULL);
        statusIs(x, 1);
        check.due("daysValue", x.daysValue(1, 0, 1, -1, 0), -1);
        statusIs(x, 0);
        check.due("shares, PLACE", x.shares(0, 6), PLACE);
        statusIs(x, 2);
        check.due("shares, NONE is no finding", x.shares(0, 5), NONE);
        statusIs(x, 0);
        check.due("who, NULL", x.who(7, 0, 0), NULL);
        statusIs(x, 1);
        check.due("who, NONE is no finding", x.who(0, 0, 1), NONE);
        statusIs(x, 0);
    }

    private static void statusLeavesOutWhatIsRefused() {
        check.says("Promise 37", "that was not BAD, STATE, FULL:");
        OrchardWall x = withRows();
        x.set(0, 0, 21);
        x.drop(7);
        check.due("row", x.row(0, 0, 41), BAD);
        check.due("set", x.set(8, 0, 0), BAD);
        check.due("copy", x.copy(8, 0, 0, 0, 0), BAD);
        check.due("drop", x.drop(8), BAD);
        check.due("as", x.as(0, 6), BAD);
        check.due("days", x.days(0, 0, 0), BAD);
        check.due("days, an item", x.days(0, 0, 1), BAD);
        check.due("daysValue", x.daysValue(0, 0, 1, 6, 0), BAD);
        check.due("daysValue, an item", x.daysValue(0, 0, 1, 0, 0), BAD);
        check.due("shares", x.shares(8, 0), BAD);
        check.due("who", x.who(0, 0, 2), BAD);
        statusIs(x, 1);
        OrchardWall y = new OrchardWall();
        y.drop(7);
        check.due("shares", y.shares(0, 0), STATE);
        check.due("who", y.who(0, 0, 0), STATE);
        statusIs(y, 1);
    }

    private static void statusLeavesOutCallsWithoutARow() {
        check.says("Promise 37", "Of the latest call with a ROW, or as(),");
        OrchardWall x = withRows();
        x.drop(7);
        x.feed('o');
        x.orchard();
        x.fault();
        x.plan(0, 0, 1, 0);
        x.raid();
        x.undo();
        x.grow(0, 1);
        x.write(0, 1);
        x.raider(0, 0);
        x.tree(0, 0);
        x.far(0, 1);
        x.ahead(0);
        x.raiderAhead(0, 0);
        x.safe(0, 0, 0);
        x.bestAlone(0, 0);
        x.watch(0);
        x.bare(0);
        x.sleep(0, 0);
        x.quietest();
        x.tear();
        x.image(0);
        x.restore(0);
        x.kind(0);
        x.ask(0, 0);
        x.trace(0);
        x.count(0);
        Check.tell(x, "o0,1,1,0,0;");
        statusIs(x, 1);
    }

    private static void statusIsZeroBeforeAny() {
        check.says("Promise 37", "or there was none.");
        OrchardWall x = new OrchardWall();
        statusIs(x, 0);
        check.due("BAD", x.row(8, 0, 0), BAD);
        check.due("STATE", x.who(0, 0, 0), STATE);
        statusIs(x, 0);
    }
}
