/** Promises 1 to 5 and 37: a new object, the rows and their findings. */
public final class RowsTest {
    private static final int BAD = OrchardWall.BAD;
    private static final int NULL = -1000011, PLACE = -1000012, SIZE = -1000014, STORE = -1000015;
    private static final Check check = new Check();

    public static void main(String[] args) {
        newObject();
        rowsAreMade();
        itemsAreSet();
        itemsAreCopied();
        copiesAreRefusedInOrder();
        rowsAreDropped();
        statusStays();
        check.end();
    }

    private static void newObject() {
        OrchardWall x = new OrchardWall();
        check.due("NONE", OrchardWall.NONE, -1000000);
        check.due("BAD", OrchardWall.BAD, -1000001);
        check.due("STATE", OrchardWall.STATE, -1000002);
        check.due("FULL", OrchardWall.FULL, -1000003);
        for (int what = 0; what <= 8; what++) {
            check.due("new count " + what, x.count(what), 0);
        }
        check.due("new ahead", x.ahead(0), OrchardWall.STATE);
        check.due("new fault", x.fault(), 0);
        check.due("new status", x.status(), 0);
        check.due("new image", x.image(0), OrchardWall.STATE);
        check.due("new restore", x.restore(1), OrchardWall.STATE);
        check.due("new raider", x.raider(0, 0), BAD);
        check.due("new trace", x.trace(0), OrchardWall.NONE);
        check.due("new row missing", x.drop(7), NULL);
    }

    private static void rowsAreMade() {
        OrchardWall x = new OrchardWall();
        check.due("row 0 items", x.row(0, 0, 0), 0);
        check.due("row 40 items", x.row(7, 2, 40), 40);
        check.due("rows", x.count(0), 2);
        check.due("last item at first", x.copy(7, 39, 7, 39, 1), 1);
        check.due("row -1", x.row(-1, 0, 1), BAD);
        check.due("row 8", x.row(8, 0, 1), BAD);
        check.due("lane -1", x.row(0, -1, 1), BAD);
        check.due("lane 3", x.row(0, 3, 1), BAD);
        check.due("n 41", x.row(0, 0, 41), BAD);
        check.due("n below 0, lane wrong", x.row(0, 3, -1), BAD);
        check.due("n below 0", x.row(7, 0, -1), SIZE);
        check.due("status", x.status(), 4);
        check.due("n least", x.row(7, 0, Integer.MIN_VALUE), SIZE);
        check.due("the row stays", x.set(7, 39, 300000), 300000);
        check.due("in place of what is there", x.row(7, 2, 40), 40);
        OrchardWall y = new OrchardWall();
        y.row(0, 2, 6);
        for (int i = 0; i < 6; i++) {
            y.set(0, i, 21);
        }
        check.due("items are told", y.days(0, 0, 1), BAD);
        y.row(0, 2, 6);
        check.due("items are 0 anew", y.days(0, 0, 1), 63);
    }

    private static void itemsAreSet() {
        OrchardWall x = new OrchardWall();
        x.row(0, 0, 2);
        x.row(1, 1, 2);
        x.row(2, 2, 2);
        check.due("byte 127", x.set(0, 0, 127), 127);
        check.due("byte 128", x.set(0, 0, 128), -128);
        check.due("byte 256", x.set(0, 1, 256), 0);
        check.due("byte -129", x.set(0, 1, -129), 127);
        check.due("short 32768", x.set(1, 0, 32768), -32768);
        check.due("short 65537", x.set(1, 1, 65537), 1);
        check.due("int", x.set(2, 1, Integer.MIN_VALUE), Integer.MIN_VALUE);
        check.due("no row", x.set(8, 0, 0), BAD);
        check.due("row below 0", x.set(-1, 0, 0), BAD);
        check.due("missing", x.set(3, -5, 0), NULL);
        check.due("status 1", x.status(), 1);
        check.due("place -1", x.set(0, -1, 0), PLACE);
        check.due("place 2", x.set(0, 2, 0), PLACE);
        check.due("status 2", x.status(), 2);
        check.due("fine", x.set(0, 0, 0), 0);
        check.due("status 0", x.status(), 0);
    }

    private static void itemsAreCopied() {
        OrchardWall x = new OrchardWall();
        x.row(0, 2, 8);
        for (int i = 0; i < 8; i++) {
            x.set(0, i, i);
        }
        // As they were ahead: 0 0 1 2 3 4 5 7, so days from 1 on has gains 0 1 2 3 4 5.
        check.due("copy within a row", x.copy(0, 0, 0, 1, 6), 6);
        Check.fill(x, 1, 0, 1, 2, 3, 4, 5);
        for (int day = 0; day < 6; day++) {
            check.due("odds " + day, x.daysValue(0, 1, 3, day, 0), x.daysValue(1, 0, 3, day, 0));
        }
        check.due("none at the end", x.copy(0, 8, 1, 6, 0), 0);
        check.due("to another", x.copy(1, 5, 0, 7, 1), 1);
    }

    private static void copiesAreRefusedInOrder() {
        OrchardWall x = new OrchardWall();
        x.row(0, 0, 3);
        x.row(1, 0, 5);
        x.row(2, 1, 5);
        check.due("a wrong", x.copy(8, 0, 3, 0, 1), BAD);
        check.due("b wrong", x.copy(3, 0, -1, 0, 1), BAD);
        check.due("a missing", x.copy(3, 0, 2, 0, -1), NULL);
        check.due("b missing", x.copy(0, 9, 4, 0, 1), NULL);
        check.due("two lanes, place wrong", x.copy(0, -1, 2, 0, 1), STORE);
        check.due("status 5", x.status(), 5);
        check.due("two lanes, none", x.copy(0, 0, 2, 0, 0), STORE);
        check.due("i below", x.copy(0, -1, 1, 0, 1), PLACE);
        check.due("j below", x.copy(0, 0, 1, -1, 1), PLACE);
        check.due("n below", x.copy(0, 0, 1, 0, -1), PLACE);
        check.due("a ends", x.copy(0, 1, 1, 0, 3), PLACE);
        check.due("b ends", x.copy(0, 0, 1, 3, 3), PLACE);
        check.due("wraps", x.copy(0, 1, 1, 1, Integer.MAX_VALUE), PLACE);
        check.due("i beyond, none", x.copy(0, 4, 1, 0, 0), PLACE);
        check.due("all", x.copy(0, 0, 1, 2, 3), 3);
    }

    private static void rowsAreDropped() {
        OrchardWall x = new OrchardWall();
        x.row(3, 1, 9);
        check.due("drop wrong", x.drop(8), BAD);
        check.due("drop below", x.drop(-1), BAD);
        check.due("drop", x.drop(3), 9);
        check.due("rows", x.count(0), 0);
        check.due("drop again", x.drop(3), NULL);
        check.due("missing then", x.set(3, 0, 0), NULL);
    }

    private static void statusStays() {
        OrchardWall x = new OrchardWall();
        x.drop(0);
        check.due("found", x.status(), 1);
        x.drop(8);
        check.due("BAD stays out", x.status(), 1);
        x.who(0, 0, 0);
        check.due("STATE stays out", x.status(), 1);
        x.count(0);
        x.feed('o');
        check.due("other calls stay out", x.status(), 1);
        Check.fill(x, 0, 1, 2, 3, 4, 5, 21);
        check.due("set is well", x.status(), 0);
        x.drop(1);
        check.due("an item is BAD", x.days(0, 0, 1), BAD);
        check.due("which stays out, too", x.status(), 1);
        check.due("places of days", x.days(0, 1, 1), PLACE);
        check.due("are found", x.status(), 2);
        Check.tell(x, "0,1,1,0,0;w3;");
        check.due("as is well", x.as(0, 4), 0);
        check.due("status of as", x.status(), 0);
        check.due("as is not", x.as(0, 1), -1000013);
        check.due("status 3", x.status(), 3);
        check.due("as no kind", x.as(0, 6), BAD);
        check.due("status 3 yet", x.status(), 3);
        check.due("shares", x.shares(0, 0), OrchardWall.NONE);
        check.due("NONE is no finding", x.status(), 0);
    }
}
