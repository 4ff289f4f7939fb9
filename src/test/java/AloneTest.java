/** Promises 20 to 22: the most that is safe, the best for one, whether one had better watch. */
public final class AloneTest {
    private static final int BAD = OrchardWall.BAD, STATE = OrchardWall.STATE, NONE = OrchardWall.NONE;
    // The dog comes 5 seconds behind the door; nobody is called back before.
    private static final String LAW = "o0,5,4,9,0;";
    private static final Check check = new Check();

    public static void main(String[] args) {
        safeIsTheMost();
        nobodyElseIsThere();
        bestIsTheFirst();
        watchingPaysOrNot();
        asksAreRefused();
        check.end();
    }

    private static void safeIsTheMost() {
        OrchardWall x = Check.told(LAW + "t4,30,2;t0,30,2;p20;p4;s20;");
        check.due("carried", x.safe(0, 0, 0), 5);
        check.due("thrown", x.safe(0, 0, 1), 3);
        check.due("full at 4", x.safe(1, 0, 0), 20);
        check.due("thrown is never full", x.safe(1, 0, 1), 3);
        // Stout: the sixth apple at 14 does not slow him, but he is at entry at 16 only.
        check.due("stout", x.safe(2, 0, 0), 5);
        // Five cells: with 3 apples there is no noise enough.
        check.due("far off", x.safe(0, 1, 0), 3);
        check.due("far off, thrown", x.safe(0, 1, 1), 1);
        OrchardWall y = Check.told("o0,1,1,0,0;t3,9,1;p9;q9;");
        check.due("none", y.safe(0, 0, 0), 0);
        OrchardWall z = Check.told("o0,1,1,0,0;t3,0,1;p9;");
        check.due("an empty tree", z.safe(0, 0, 0), 20);
        check.due("nothing changes", x.tree(0, 1), 30);
    }

    private static void nobodyElseIsThere() {
        OrchardWall x = Check.told(LAW + "t4,30,2;p20;w1;k1;p20;");
        x.plan(3, 0, 20, 1);
        check.due("no watch, no other", x.safe(0, 0, 0), 5);
        check.due("best", x.bestAlone(0, 3), 10);
    }

    private static void best(String text, int tree, int apples, int how, int got) {
        OrchardWall x = Check.told(text);
        check.due(text + " tree", x.bestAlone(0, 0), tree);
        check.due(text + " apples", x.bestAlone(0, 1), apples);
        check.due(text + " how", x.bestAlone(0, 2), how);
        check.due(text + " got", x.bestAlone(0, 3), got);
        check.due(text + " no act", x.count(7), 0);
    }

    private static void bestIsTheFirst() {
        best(LAW + "t4,30,2;p20;", 0, 5, 0, 10);
        best(LAW + "t4,3,2;t11,3,2;p20;", 0, 3, 0, 6);
        best(LAW + "t4,30,2;t11,30,3;p20;", 1, 5, 0, 15);
        best(LAW + "t4,30,2;p2;", 0, 3, 1, 6);
        best(LAW + "t4,30,0;p20;", 0, 1, 0, 0);
        best(LAW + "t4,0,9;p20;", 0, 1, 0, 0);
        best(LAW + "p20;", NONE, NONE, NONE, NONE);
        best("o0,1,1,0,0;t3,9,9;p9;", NONE, NONE, NONE, NONE);
        best("o0,1,60,9,40;t3,30,9;p20;", 0, 20, 0, 180);
    }

    private static void watchingPaysOrNot() {
        OrchardWall x = Check.told("o0,1,2,9,3;t2,30,1;p20;p20;");
        x.plan(0, 0, 20, 0);
        x.plan(1, 0, 20, 0);
        check.due("both caught", x.ahead(0), 0);
        check.due("it pays", x.watch(0), 2);
        check.due("it pays, too", x.watch(1), 2);
        OrchardWall y = Check.told("o0,1,2,9,40;t2,30,1;p20;p20;");
        y.plan(0, 0, 20, 0);
        y.plan(1, 0, 20, 0);
        check.due("they get", y.ahead(0), 10);
        check.due("it does not pay", y.watch(0), -8);
        OrchardWall z = Check.told("o0,1,60,9,40;t2,30,3;p20;k1;");
        z.plan(0, 0, 4, 0);
        check.due("nobody else goes", z.watch(0), -12);
        check.due("the plan stays", z.raider(0, 2), 4);
        // A sister that was there makes way for a watch.
        OrchardWall s = Check.told("o0,1,2,9,40;t2,30,1;t7,30,1;p20;p20;k1;");
        s.plan(0, 0, 20, 1);
        s.plan(1, 1, 20, 1);
        check.due("with a sister", s.ahead(0), 4);
        check.due("with a watch", s.watch(0), -3);
    }

    private static void asksAreRefused() {
        OrchardWall x = Check.told(LAW + "t4,30,2;p20;w1;k1;");
        check.due("safe raider 3", x.safe(3, 0, 0), BAD);
        check.due("safe raider -1", x.safe(-1, 0, 0), BAD);
        check.due("safe tree 1", x.safe(0, 1, 0), BAD);
        check.due("safe tree -1", x.safe(0, -1, 0), BAD);
        check.due("safe how 2", x.safe(0, 0, 2), BAD);
        check.due("safe how -1", x.safe(0, 0, -1), BAD);
        check.due("safe watch, BAD first", x.safe(1, 0, 2), BAD);
        check.due("safe watch", x.safe(1, 0, 0), STATE);
        check.due("safe sister", x.safe(2, 0, 0), STATE);
        check.due("best raider 3", x.bestAlone(3, 0), BAD);
        check.due("best what 4", x.bestAlone(0, 4), BAD);
        check.due("best what -1", x.bestAlone(0, -1), BAD);
        check.due("best watch, BAD first", x.bestAlone(1, 4), BAD);
        check.due("best watch", x.bestAlone(1, 3), STATE);
        check.due("best sister", x.bestAlone(2, 0), STATE);
        check.due("watch raider 3", x.watch(3), BAD);
        check.due("watch raider -1", x.watch(-1), BAD);
        check.due("watch, no plan", x.watch(0), STATE);
        check.due("watch of a watch", x.watch(1), STATE);
        check.due("no orchard", new OrchardWall().watch(0), BAD);
    }
}
