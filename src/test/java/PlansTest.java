/** Promises 9 to 17 and 36: plans, raids, growth, the undoing of them, and what can be asked of all that. */
public final class PlansTest {
    private static final int BAD = OrchardWall.BAD, STATE = OrchardWall.STATE, FULL = OrchardWall.FULL;
    private static final Check check = new Check();

    public static void main(String[] args) {
        plansAreMade();
        plansAreRefused();
        raidsAreRun();
        raidsAreRefused();
        applesGrow();
        actsAreUndone();
        onlyTheLatestActsAreKept();
        raidersAndTreesAreTold();
        cellsAreFar();
        thingsAreCounted();
        check.end();
    }

    private static OrchardWall ordinary() {
        return Check.told("o0,1,60,0,40;h23,1;t2,30,1;t7,5,9;p20;q4;s12;w5;");
    }

    private static void plansAreMade() {
        OrchardWall x = ordinary();
        check.due("first plan", x.plan(0, 1, 20, 1), 0);
        check.due("tree", x.raider(0, 1), 1);
        check.due("apples", x.raider(0, 2), 20);
        check.due("how", x.raider(0, 3), 1);
        check.due("second plan", x.plan(0, 0, 1, 0), 1);
        check.due("none, whatever the rest", x.plan(0, -1, 99, -7), 1);
        check.due("no tree", x.raider(0, 1), -1);
        check.due("no apples", x.raider(0, 2), 0);
        check.due("no how", x.raider(0, 3), 0);
        check.due("none again", x.plan(0, -1, 0, 0), 0);
        check.due("each is an act", x.count(7), 4);
    }

    private static void plansAreRefused() {
        OrchardWall x = ordinary();
        check.due("raider -1", x.plan(-1, 0, 1, 0), BAD);
        check.due("raider 4", x.plan(4, 0, 1, 0), BAD);
        check.due("tree -2", x.plan(0, -2, 1, 0), BAD);
        check.due("tree 2", x.plan(0, 2, 1, 0), BAD);
        check.due("apples 0", x.plan(0, 0, 0, 0), BAD);
        check.due("apples 21", x.plan(0, 0, 21, 0), BAD);
        check.due("how -1", x.plan(0, 0, 1, -1), BAD);
        check.due("how 2", x.plan(0, 0, 1, 2), BAD);
        check.due("a watch, BAD first", x.plan(3, 0, 0, 0), BAD);
        check.due("a watch", x.plan(3, 0, 1, 0), STATE);
        check.due("a watch, none", x.plan(3, -1, 0, 0), STATE);
        check.due("a sister", Check.told("o0,1,1,0,0;k1;").plan(0, -1, 0, 0), STATE);
        check.due("no orchard", new OrchardWall().plan(0, -1, 0, 0), BAD);
        check.due("no act", x.count(7), 0);
    }

    private static void raidsAreRun() {
        OrchardWall x = ordinary();
        x.plan(0, 0, 3, 0);
        x.plan(1, 1, 9, 0);
        check.due("3 by 1 and 4 by 9", x.raid(), 39);
        check.due("first tree", x.tree(0, 1), 27);
        check.due("second tree", x.tree(1, 1), 1);
        check.due("plans stay", x.raider(1, 2), 9);
        check.due("3 by 1 and 1 by 9", x.raid(), 12);
        check.due("raids", x.count(4), 2);
        check.due("got", x.count(5), 51);
        check.due("acts", x.count(7), 4);
        OrchardWall y = Check.told("o0,1,2,9,3;t2,30,7;p20;p20;");
        y.plan(0, 0, 20, 0);
        check.due("caught with what he carried", y.raid(), 0);
        check.due("four are missing", y.tree(0, 1), 26);
        check.due("caught once", y.raider(0, 4), 1);
        y.raid();
        check.due("caught twice", y.raider(0, 4), 2);
        check.due("the other never", y.raider(1, 4), 0);
        y.undo();
        check.due("caught once yet", y.raider(0, 4), 1);
        check.due("apples are back", y.tree(0, 1), 26);
    }

    private static void raidsAreRefused() {
        check.due("no orchard", new OrchardWall().raid(), STATE);
        OrchardWall x = ordinary();
        check.due("no plan", x.raid(), STATE);
        x.plan(0, 0, 1, 0);
        for (int i = 0; i < 99; i++) {
            check.due("raid " + i, x.raid(), i < 30 ? 1 : 0);
        }
        check.due("99 were", x.raid(), FULL);
        check.due("raids", x.count(4), 99);
        check.due("foretold all the same", x.ahead(3), 6);
        x.plan(0, -1, 0, 0);
        check.due("no plan, STATE first", x.raid(), STATE);
        x.undo();
        x.undo();
        check.due("98 were", x.raid(), 0);
    }

    private static void applesGrow() {
        OrchardWall x = ordinary();
        check.due("grow 30", x.grow(0, 30), 60);
        check.due("above 60", x.grow(0, 1), FULL);
        check.due("grow 1", x.grow(1, 1), 6);
        check.due("it has", x.tree(1, 1), 6);
        check.due("n 0", x.grow(1, 0), BAD);
        check.due("n 31", x.grow(0, 31), BAD);
        check.due("tree 2", x.grow(2, 1), BAD);
        check.due("tree -1", x.grow(-1, 1), BAD);
        check.due("acts", x.count(7), 2);
        check.due("undone", x.undo(), 1);
        check.due("it had", x.tree(1, 1), 5);
    }

    private static void actsAreUndone() {
        OrchardWall x = ordinary();
        check.due("none", x.undo(), STATE);
        x.plan(0, 0, 3, 0);
        x.plan(0, 1, 5, 1);
        x.raid();
        x.grow(1, 7);
        x.plan(0, -1, 0, 0);
        x.write(1, 1);
        check.due("the plan that went", x.undo(), 4);
        check.due("is there", x.raider(0, 2), 5);
        check.due("growth", x.undo(), 3);
        check.due("none grew", x.tree(1, 1), 0);
        check.due("the raid", x.undo(), 2);
        check.due("apples", x.tree(1, 1), 5);
        check.due("raids", x.count(4), 0);
        check.due("got", x.count(5), 0);
        check.due("the second plan", x.undo(), 1);
        check.due("the first one", x.raider(0, 2), 3);
        check.due("the first plan", x.undo(), 0);
        check.due("no plan", x.raider(0, 1), -1);
        check.due("none yet", x.undo(), STATE);
        check.due("the book is no act", x.count(6), 1);
    }

    private static void onlyTheLatestActsAreKept() {
        OrchardWall x = ordinary();
        for (int i = 1; i <= 30; i++) {
            x.plan(0, 0, (i - 1) % 20 + 1, 0);
            check.due("acts " + i, x.count(7), Math.min(i, 24));
        }
        for (int i = 23; i >= 0; i--) {
            check.due("undo " + i, x.undo(), i);
        }
        check.due("undo", x.undo(), STATE);
        check.due("the sixth plan", x.raider(0, 2), 6);
        check.due("a plan", x.plan(0, 0, 1, 0), 1);
        check.due("undone", x.undo(), 0);
    }

    private static void raidersAndTreesAreTold() {
        OrchardWall x = ordinary();
        check.due("full", x.raider(2, 0), 12);
        check.due("no plan", x.raider(2, 1), -1);
        check.due("no apples", x.raider(2, 2), 0);
        check.due("no how", x.raider(2, 3), 0);
        check.due("not caught", x.raider(2, 4), 0);
        check.due("raider what 5", x.raider(2, 5), BAD);
        check.due("raider what -1", x.raider(2, -1), BAD);
        check.due("raider 4", x.raider(4, 0), BAD);
        check.due("raider -1", x.raider(-1, 0), BAD);
        check.due("cell", x.tree(1, 0), 7);
        check.due("apples", x.tree(1, 1), 5);
        check.due("worth", x.tree(1, 2), 9);
        check.due("tree what 3", x.tree(1, 3), BAD);
        check.due("tree what -1", x.tree(1, -1), BAD);
        check.due("tree 2", x.tree(2, 0), BAD);
        check.due("tree -1", x.tree(-1, 0), BAD);
    }

    private static void cellsAreFar() {
        OrchardWall x = new OrchardWall();
        check.due("same", x.far(9, 9), 0);
        check.due("row", x.far(5, 0), 5);
        check.due("corner", x.far(0, 23), 8);
        check.due("other corner", x.far(18, 5), 8);
        check.due("a step down", x.far(5, 6), 6);
        check.due("a 24", x.far(24, 0), BAD);
        check.due("a -1", x.far(-1, 0), BAD);
        check.due("b 24", x.far(0, 24), BAD);
        check.due("b -1", x.far(0, -1), BAD);
    }

    private static void thingsAreCounted() {
        OrchardWall x = ordinary();
        x.row(5, 0, 0);
        x.feed('o');
        x.feed(0);
        x.write(1, 0);
        x.plan(0, 0, 2, 0);
        x.raid();
        int[] due = {1, 2, 4, 1, 1, 2, 1, 2, 2};
        for (int what = 0; what < due.length; what++) {
            check.due("count " + what, x.count(what), due[what]);
        }
        check.due("count 9", x.count(9), BAD);
        check.due("count -1", x.count(-1), BAD);
    }
}
