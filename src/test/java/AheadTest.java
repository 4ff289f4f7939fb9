/** Promises 18 and 19, and the raid itself, second by second, reckoned by hand. */
public final class AheadTest {
    private static final int BAD = OrchardWall.BAD, STATE = OrchardWall.STATE, NONE = OrchardWall.NONE;
    private static final Check check = new Check();

    public static void main(String[] args) {
        pacesAreByLoad();
        pickingEnds();
        treesAreShared();
        waysGoAlongFirst();
        hensCackle();
        theDoorGoesInTheLastSecond();
        delaysAreByWatches();
        theDogCatches();
        whoIsAtEntryIsOut();
        nothingChanges();
        asksAreRefused();
        check.end();
    }

    /** Raider 0 goes alone to tree 0. */
    private static void one(String text, int apples, int how, int got, int door, int last) {
        OrchardWall x = Check.told(text);
        x.plan(0, 0, apples, how);
        String name = text + " plan " + apples + " how " + how;
        check.due(name + " got", x.ahead(0), got);
        check.due(name + " door", x.ahead(2), door);
        check.due(name + " last", x.ahead(3), last);
    }

    private static void pacesAreByLoad() {
        String law = "o0,1,60,0,40;t2,30,1;";
        one(law + "p20;", 3, 0, 3, NONE, 10);
        one(law + "p20;", 5, 0, 5, NONE, 14);
        one(law + "p20;", 6, 0, 6, NONE, 17);
        one(law + "p20;", 12, 0, 12, NONE, 30);
        one(law + "q20;", 5, 0, 5, NONE, 12);
        one(law + "q20;", 6, 0, 6, NONE, 15);
        one(law + "s20;", 11, 0, 11, NONE, 26);
        one(law + "s20;", 12, 0, 12, NONE, 29);
        one(law + "p20;", 12, 1, 12, NONE, 28);
        one("o0,1,60,0,40;t23,30,1;p20;", 20, 0, 20, NONE, 14 + 40 + 7 * 5);
    }

    private static void pickingEnds() {
        one("o0,1,60,0,40;t2,30,3;p2;", 5, 0, 6, NONE, 8);
        one("o0,1,60,0,40;t2,30,3;p2;", 5, 1, 15, NONE, 14);
        one("o0,1,60,0,40;t2,2,3;p9;", 5, 0, 6, NONE, 8);
        one("o0,1,60,0,40;t2,0,3;p9;", 5, 0, 0, NONE, 6);
        one("o0,1,60,0,40;t2,0,3;p9;", 5, 1, 0, NONE, 6);
        one("o0,1,60,0,40;t2,9,0;p9;", 5, 1, 0, NONE, 14);
    }

    private static void treesAreShared() {
        OrchardWall x = Check.told("o0,1,60,0,40;t2,3,1;p9;p9;");
        x.plan(0, 0, 9, 0);
        x.plan(1, 0, 9, 0);
        check.due("got", x.ahead(0), 3);
        check.due("first has 2", x.raiderAhead(0, 1), 2);
        check.due("second has 1", x.raiderAhead(1, 1), 1);
        check.due("first out", x.raiderAhead(0, 0), 8);
        check.due("second out", x.raiderAhead(1, 0), 8);
        // Who waits at a tree that another empties has his two seconds first.
        OrchardWall y = Check.told("o0,1,60,0,40;t2,2,1;q9;p9;");
        y.plan(0, 0, 9, 0);
        y.plan(1, 0, 9, 0);
        check.due("quick has 1", y.raiderAhead(0, 1), 1);
        check.due("quick out", y.raiderAhead(0, 0), 6);
        check.due("slow has 1", y.raiderAhead(1, 1), 1);
        check.due("slow out", y.raiderAhead(1, 0), 6);
    }

    private static void waysGoAlongFirst() {
        one("o0,1,9,0,40;h3,9;t14,9,1;p9;", 1, 0, 0, 2, 4);
        one("o0,1,9,0,40;h13,9;t14,9,1;p9;", 1, 0, 0, 6, 12);
        one("o0,1,9,0,40;h12,9;t14,9,1;p9;", 1, 0, 1, NONE, 14);
        one("o1,14,9,0,40;h2,9;t0,9,1;p9;", 1, 0, 1, NONE, 18);
        one("o1,14,9,0,40;h18,9;t0,9,1;p9;", 1, 0, 0, 4, 8);
    }

    private static void hensCackle() {
        // In it and beside it, each adds up: 3 and 4 at cell 2, none of the one that is across a corner.
        one("o0,1,7,0,40;h2,3;h8,4;t3,9,1;p9;", 1, 0, 0, 2, 4);
        one("o0,1,8,0,40;h2,3;h8,4;t3,9,1;p9;", 1, 0, 0, 4, 8);
        one("o0,1,9,0,40;h9,9;t2,9,1;p9;", 1, 0, 1, NONE, 6);
        // Cells 5 and 6 are not beside one another.
        one("o0,4,9,0,40;h6,9;t5,9,1;p9;", 1, 0, 1, NONE, 6);
    }

    private static void theDoorGoesInTheLastSecond() {
        OrchardWall x = Check.told("o0,1,11,0,0;h2,5;t2,9,1;p9;");
        x.plan(0, 0, 1, 0);
        check.due("got", x.ahead(0), 1);
        check.due("nobody caught", x.ahead(1), 0);
        check.due("the door", x.ahead(2), 6);
        check.due("last", x.ahead(3), 6);
    }

    private static void delaysAreByWatches() {
        one("o0,1,2,9,40;t2,30,1;p20;", 20, 1, 5, 4, 15);
        one("o0,1,2,3,40;t2,30,1;p20;", 20, 1, 2, 4, 9);
        one("o0,1,2,4,40;t2,30,1;p20;", 20, 1, 3, 4, 10);
        one("o0,1,2,0,40;t2,30,1;p20;", 20, 1, 1, 4, 6);
        one("o0,1,2,9,40;t2,30,1;p20;w1;", 20, 1, 1, 4, 6);
        one("o0,1,2,9,40;t2,30,1;p20;k1;", 20, 1, 2, 4, 8);
        one("o0,1,2,1,40;t2,30,1;p20;k1;", 20, 1, 1, 4, 7);
        one("o0,1,2,9,40;t2,30,1;p20;k1;w1;", 20, 1, 1, 4, 6);
        one("o0,1,2,9,40;t2,30,1;p20;w1;k1;", 20, 1, 1, 4, 6);
    }

    private static void theDogCatches() {
        one("o0,1,2,9,3;t2,30,1;p20;", 20, 1, 3, 4, 8);
        OrchardWall x = Check.told("o0,1,2,9,3;t2,30,1;p20;p20;q1;");
        x.plan(0, 0, 20, 1);
        x.plan(2, 0, 1, 0);
        // The quick one comes at 1, has his apple at 3 and is out at 4, when the other's first makes it 3.
        check.due("got", x.ahead(0), 4);
        check.due("caught", x.ahead(1), 1);
        check.due("the door", x.ahead(2), 4);
        check.due("last", x.ahead(3), 8);
        check.due("caught is not out", x.raiderAhead(0, 0), NONE);
        check.due("what he threw", x.raiderAhead(0, 1), 3);
        check.due("no plan", x.raiderAhead(1, 0), NONE);
        check.due("no plan, nothing", x.raiderAhead(1, 1), 0);
        check.due("the quick one", x.raiderAhead(2, 0), 4);
        check.due("his apple", x.raiderAhead(2, 1), 1);
        x.plan(0, 0, 20, 0);
        check.due("got then", x.ahead(0), 1);
        check.due("what he carried is lost", x.raiderAhead(0, 1), 0);
        // Out in the very second in which the dog comes.
        one("o0,1,1,9,1;t2,1,1;p1;", 1, 0, 1, 4, 6);
        one("o0,1,1,9,0;t2,1,1;p1;", 1, 0, 0, 4, 5);
        one("o23,1,1,9,0;t2,9,1;p9;", 9, 0, 0, 4, 11);
    }

    private static void whoIsAtEntryIsOut() {
        OrchardWall x = Check.told("o0,1,5,0,40;h2,5;t2,9,1;q9;p9;");
        x.plan(0, 0, 1, 0);
        x.plan(1, 0, 1, 0);
        check.due("the door", x.ahead(2), 1);
        check.due("the slow one", x.raiderAhead(1, 0), 1);
        check.due("the quick one", x.raiderAhead(0, 0), 2);
        check.due("last", x.ahead(3), 2);
        // The dog in the next second: who is called back at entry is out ahead of it.
        OrchardWall y = Check.told("o0,1,5,1,0;h3,5;t3,9,1;q9;p9;");
        y.plan(0, 0, 1, 0);
        y.plan(1, 0, 1, 0);
        check.due("both caught", y.ahead(1), 3);
        OrchardWall z = Check.told("o0,1,5,0,0;h2,5;t2,9,1;q9;p9;");
        z.plan(0, 0, 1, 0);
        z.plan(1, 0, 1, 0);
        check.due("nobody caught", z.ahead(1), 0);
    }

    private static void nothingChanges() {
        OrchardWall x = Check.told("o0,1,60,0,40;t2,9,1;p9;");
        check.due("no plan, got", x.ahead(0), 0);
        check.due("no plan, caught", x.ahead(1), 0);
        check.due("no plan, door", x.ahead(2), NONE);
        check.due("no plan, last", x.ahead(3), 0);
        x.plan(0, 0, 9, 0);
        x.ahead(0);
        x.raiderAhead(0, 0);
        check.due("apples stay", x.tree(0, 1), 9);
        check.due("no raid", x.count(4), 0);
        check.due("nothing got", x.count(5), 0);
        check.due("no act", x.count(7), 1);
    }

    private static void asksAreRefused() {
        OrchardWall x = new OrchardWall();
        check.due("no orchard ahead of BAD", x.ahead(9), STATE);
        check.due("no raider", x.raiderAhead(0, 0), BAD);
        Check.tell(x, "o0,1,60,0,40;t2,9,1;p9;");
        check.due("what 4", x.ahead(4), BAD);
        check.due("what -1", x.ahead(-1), BAD);
        check.due("raider 1", x.raiderAhead(1, 0), BAD);
        check.due("raider -1", x.raiderAhead(-1, 0), BAD);
        check.due("raider what 2", x.raiderAhead(0, 2), BAD);
        check.due("raider what -1", x.raiderAhead(0, -1), BAD);
    }
}
