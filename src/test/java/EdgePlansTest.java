/** Promises 9 to 17, and what "Terms" says of cells, plans and acts: bounds, the empty, the full, what is undone. */
public final class EdgePlansTest {
    private static final int BAD = OrchardWall.BAD, STATE = OrchardWall.STATE, FULL = OrchardWall.FULL;
    private static final int NONE = OrchardWall.NONE;
    private static final int LEAST = Integer.MIN_VALUE, GREATEST = Integer.MAX_VALUE;
    // Nobody is heard; raiders 2 and 3 are a watch and a sister.
    private static final String QUIET = "o0,1,60,9,40;t2,30,1;t3,9,2;t4,9,3;t5,9,4;t8,9,5;t9,9,6;p20;q20;w5;k5;";
    private static final Check check = new Check();

    public static void main(String[] args) {
        cellsHaveNumbers();
        farIsRefused();
        plansHaveBounds();
        noPlanIsAPlanTaken();
        planTellsWhetherHeHadOne();
        planIsRefused();
        watchesAndSistersHaveNone();
        raidTellsWhatIsGot();
        raidIsRefused();
        ninetyNineRaids();
        applesGrow();
        growIsRefused();
        aTreeHasSixtyAtMost();
        linesAreWritten();
        writeIsRefused();
        theBookIsTorn();
        raidersAreAsked();
        fourRaidersEachHaveTheirOwn();
        treesAreAsked();
        undoTellsHowMany();
        nothingToUndo();
        eachActIsUndone();
        twentyFourActsAreKept();
        theOldestIsForgotten();
        onlyActsAreActs();
        check.end();
    }

    private static void cellsHaveNumbers() {
        check.says("Terms 2", "CELLS x 0 to 5, y 0 to 3; a CELL's number is 6 y and x.");
        check.says("Terms 2", "FAR: how many CELLS one goes.");
        check.says("Promise 17", "FAR from a CELL to another.");
        for (int a = 0; a <= 23; a++) {
            OrchardWall y = new OrchardWall();
            check.due("far from itself", y.far(a, a), 0);
            for (int b = 0; b <= 23; b++) {
                int far = Math.abs(a % 6 - b % 6) + Math.abs(a / 6 - b / 6);
                check.due("far " + a + " " + b, y.far(a, b), far);
            }
        }
        OrchardWall x = new OrchardWall();
        check.due("along", x.far(0, 5), 5);
        check.due("the end of one line and the beginning of the next", x.far(5, 6), 6);
        check.due("down", x.far(0, 18), 3);
        check.due("corner to corner", x.far(0, 23), 8);
        check.due("corner to corner, too", x.far(18, 5), 8);
    }

    private static void farIsRefused() {
        check.says("Promise 17", "BAD.");
        OrchardWall x = new OrchardWall();
        check.due("23", x.far(23, 23), 0);
        check.due("a 24", x.far(24, 23), BAD);
        check.due("b 24", x.far(23, 24), BAD);
        check.due("a -1", x.far(-1, 0), BAD);
        check.due("b -1", x.far(0, -1), BAD);
        check.due("both wrong alike", x.far(24, 24), BAD);
        check.due("least", x.far(LEAST, 0), BAD);
        check.due("greatest", x.far(0, GREATEST), BAD);
    }

    private static void isPlan(OrchardWall x, int raider, int tree, int apples, int how) {
        check.due("tree of " + raider, x.raider(raider, 1), tree);
        check.due("apples of " + raider, x.raider(raider, 2), apples);
        check.due("how of " + raider, x.raider(raider, 3), how);
    }

    private static void plansHaveBounds() {
        check.says("Terms 2", "PLAN of a RAIDER: a TREE, APPLES (PLANNED: 1 to 20), HOW (0 he carries them, 1"
                + " throws them over); or none;");
        OrchardWall x = Check.told(QUIET);
        isPlan(x, 0, -1, 0, 0);
        check.due("the least of all", x.plan(0, 0, 1, 0), 0);
        isPlan(x, 0, 0, 1, 0);
        check.due("the greatest of all", x.plan(0, 5, 20, 1), 1);
        isPlan(x, 0, 5, 20, 1);
        for (int apples = 1; apples <= 20; apples++) {
            check.due("apples " + apples, x.plan(0, 0, apples, 0), 1);
            check.due("are got", x.ahead(0), apples);
        }
        check.due("21", x.plan(0, 0, 21, 0), BAD);
        isPlan(x, 0, 0, 20, 0);
    }

    private static void noPlanIsAPlanTaken() {
        check.says("Promise 10", "A PLAN of a RAIDER (TREE -1: none; APPLES, HOW of no matter then):");
        OrchardWall x = Check.told(QUIET);
        x.plan(0, 5, 20, 1);
        check.due("none, the rest greatest", x.plan(0, -1, GREATEST, GREATEST), 1);
        isPlan(x, 0, -1, 0, 0);
        check.due("nobody goes", x.ahead(3), 0);
        x.plan(0, 5, 20, 1);
        check.due("none, the rest least", x.plan(0, -1, LEAST, LEAST), 1);
        isPlan(x, 0, -1, 0, 0);
        x.plan(0, 5, 20, 1);
        check.due("none, the rest as in a plan", x.plan(0, -1, 7, 1), 1);
        isPlan(x, 0, -1, 0, 0);
    }

    private static void planTellsWhetherHeHadOne() {
        check.says("Promise 10", "whether he had one (1, 0).");
        OrchardWall x = Check.told(QUIET);
        check.due("none ahead", x.plan(0, 0, 1, 0), 0);
        check.due("another's is not his", x.plan(1, 0, 1, 0), 0);
        check.due("one ahead", x.plan(0, 1, 2, 1), 1);
        check.due("one ahead, none then", x.plan(0, -1, 0, 0), 1);
        check.due("none ahead, none then", x.plan(0, -1, 0, 0), 0);
        check.due("none ahead anew", x.plan(0, 0, 1, 0), 0);
    }

    private static void planIsRefused() {
        check.says("Promise 10", "BAD; STATE: a watch, a sister.");
        OrchardWall x = Check.told(QUIET);
        check.due("raider -1", x.plan(-1, 0, 1, 0), BAD);
        check.due("raider 4", x.plan(4, 0, 1, 0), BAD);
        check.due("raider least", x.plan(LEAST, 0, 1, 0), BAD);
        check.due("raider greatest", x.plan(GREATEST, 0, 1, 0), BAD);
        check.due("raider 4, no plan", x.plan(4, -1, 1, 0), BAD);
        check.due("tree -2", x.plan(0, -2, 1, 0), BAD);
        check.due("tree least", x.plan(0, LEAST, 1, 0), BAD);
        check.due("tree 6", x.plan(0, 6, 1, 0), BAD);
        check.due("tree greatest", x.plan(0, GREATEST, 1, 0), BAD);
        check.due("apples 0", x.plan(0, 0, 0, 0), BAD);
        check.due("apples 21", x.plan(0, 0, 21, 0), BAD);
        check.due("apples least", x.plan(0, 0, LEAST, 0), BAD);
        check.due("apples greatest", x.plan(0, 0, GREATEST, 0), BAD);
        check.due("how -1", x.plan(0, 0, 1, -1), BAD);
        check.due("how 2", x.plan(0, 0, 1, 2), BAD);
        check.due("a watch, apples 21", x.plan(2, 0, 21, 0), BAD);
        check.due("a watch", x.plan(2, 0, 1, 0), STATE);
        check.due("a sister", x.plan(3, 0, 1, 0), STATE);
        check.due("a watch, no plan", x.plan(2, -1, 1, 0), STATE);
        check.due("a sister, no plan", x.plan(3, -1, 1, 0), STATE);
        check.due("no act", x.count(7), 0);
        OrchardWall y = Check.told("o0,1,60,9,40;t2,9,1;p9;");
        check.due("the last tree", y.plan(0, 0, 1, 0), 0);
        check.due("one behind it", y.plan(0, 1, 1, 0), BAD);
        check.due("one behind the last raider", y.plan(1, 0, 1, 0), BAD);
        check.due("no orchard", new OrchardWall().plan(0, -1, 0, 0), BAD);
        check.due("no trees", Check.told("o0,1,60,9,40;p9;").plan(0, 0, 1, 0), BAD);
        check.due("no trees, no plan", Check.told("o0,1,60,9,40;p9;").plan(0, -1, 1, 0), 0);
    }

    private static void watchesAndSistersHaveNone() {
        check.says("Terms 2", "watches and sisters have none.");
        OrchardWall x = Check.told(QUIET);
        x.plan(2, 0, 1, 0);
        x.plan(3, 0, 1, 0);
        isPlan(x, 2, -1, 0, 0);
        isPlan(x, 3, -1, 0, 0);
        check.due("so nobody has", x.raid(), STATE);
    }

    private static void raidTellsWhatIsGot() {
        check.says("Promise 11", "A RAID: GOT by it.");
        OrchardWall x = Check.told("o0,1,60,9,40;t2,30,0;t3,3,9;p20;q2;");
        x.plan(0, 0, 20, 0);
        check.due("of no worth", x.raid(), 0);
        x.plan(1, 1, 2, 0);
        check.due("2 by 9", x.raid(), 18);
        check.due("1 by 9", x.raid(), 9);
        check.due("nothing is left", x.raid(), 0);
        check.due("got by all", x.count(5), 27);
        check.due("raids", x.count(4), 4);
    }

    private static void raidIsRefused() {
        check.says("Promise 11", "STATE: no ORCHARD, nobody has a PLAN;");
        check.due("no orchard", new OrchardWall().raid(), STATE);
        check.due("no raider", Check.told("o0,1,60,9,40;t2,9,1;").raid(), STATE);
        OrchardWall x = Check.told(QUIET);
        check.due("nobody has a plan", x.raid(), STATE);
        check.due("no raid", x.count(4), 0);
        x.plan(1, 0, 1, 0);
        check.due("one has", x.raid(), 1);
        x.plan(1, -1, 0, 0);
        check.due("nobody then", x.raid(), STATE);
        check.due("one raid", x.count(4), 1);
        check.due("acts", x.count(7), 3);
    }

    private static void ninetyNineRaids() {
        check.says("Promise 11", "FULL: 99 were.");
        OrchardWall x = Check.told("o0,1,60,9,40;t2,2,1;p1;");
        x.plan(0, 0, 1, 0);
        for (int raid = 1; raid <= 99; raid++) {
            check.due("raid " + raid, x.raid(), raid <= 2 ? 1 : 0);
        }
        check.due("raid 100", x.raid(), FULL);
        check.due("raids", x.count(4), 99);
        check.due("got", x.count(5), 2);
        x.undo();
        check.due("one was undone", x.count(4), 98);
        check.due("raid 99 anew", x.raid(), 0);
        check.due("raid 100 again", x.raid(), FULL);
        Check.tell(x, "o0,1,60,9,40;t2,2,1;p1;");
        x.plan(0, 0, 1, 0);
        check.due("another orchard", x.raid(), 1);
    }

    private static void applesGrow() {
        check.says("Promise 12", "n apples (1 to 30) grow on a TREE: how many it has.");
        OrchardWall x = Check.told("o0,1,60,9,40;t2,0,1;t3,30,1;p9;");
        check.due("1", x.grow(0, 1), 1);
        check.due("30", x.grow(0, 30), 31);
        check.due("it has", x.tree(0, 1), 31);
        check.due("30 on the last tree", x.grow(1, 30), 60);
        check.due("each is an act", x.count(7), 3);
    }

    private static void growIsRefused() {
        check.says("Promise 12", "BAD;");
        OrchardWall x = Check.told("o0,1,60,9,40;t2,0,1;t3,30,1;p9;");
        check.due("0", x.grow(0, 0), BAD);
        check.due("-1", x.grow(0, -1), BAD);
        check.due("31", x.grow(0, 31), BAD);
        check.due("least", x.grow(0, LEAST), BAD);
        check.due("greatest", x.grow(0, GREATEST), BAD);
        check.due("tree -1", x.grow(-1, 1), BAD);
        check.due("tree 2 of 2", x.grow(2, 1), BAD);
        check.due("tree greatest", x.grow(GREATEST, 1), BAD);
        check.due("no orchard", new OrchardWall().grow(0, 1), BAD);
        check.due("no act", x.count(7), 0);
    }

    private static void aTreeHasSixtyAtMost() {
        check.says("Promise 12", "FULL: above 60.");
        OrchardWall x = Check.told("o0,1,60,9,40;t2,30,1;p9;");
        check.due("59", x.grow(0, 29), 59);
        check.due("61", x.grow(0, 2), FULL);
        check.due("59 yet", x.tree(0, 1), 59);
        check.due("60", x.grow(0, 1), 60);
        check.due("61", x.grow(0, 1), FULL);
        check.due("90", x.grow(0, 30), FULL);
        check.due("BAD ahead of FULL", x.grow(0, 31), BAD);
        check.due("60 yet", x.tree(0, 1), 60);
        check.due("acts", x.count(7), 2);
        x.plan(0, 0, 1, 0);
        x.raid();
        check.due("one was picked, one grows", x.grow(0, 1), 60);
    }

    private static void linesAreWritten() {
        check.says("Promise 13", "A line of THE BOOK: how many there are.");
        OrchardWall x = new OrchardWall();
        check.due("hour 0", x.write(0, 0), 1);
        check.due("hour 23", x.write(23, 1), 2);
        check.due("the same line again", x.write(23, 1), 3);
        check.due("lines", x.count(6), 3);
    }

    private static void writeIsRefused() {
        check.says("Promise 13", "BAD; FULL: 16.");
        OrchardWall x = new OrchardWall();
        check.due("hour -1", x.write(-1, 0), BAD);
        check.due("hour 24", x.write(24, 0), BAD);
        check.due("hour least", x.write(LEAST, 0), BAD);
        check.due("hour greatest", x.write(GREATEST, 0), BAD);
        check.due("slept -1", x.write(0, -1), BAD);
        check.due("slept 2", x.write(0, 2), BAD);
        check.due("no lines", x.count(6), 0);
        for (int line = 1; line <= 16; line++) {
            check.due("line " + line, x.write(line, 1), line);
        }
        check.due("line 17", x.write(0, 0), FULL);
        check.due("BAD ahead of FULL", x.write(24, 0), BAD);
        check.due("16 lines", x.count(6), 16);
        check.due("hour 0 has none", x.sleep(0, 0), NONE);
    }

    private static void theBookIsTorn() {
        check.says("Promise 14", "THE BOOK is empty: how many lines it had.");
        OrchardWall x = new OrchardWall();
        check.due("no lines", x.tear(), 0);
        for (int line = 1; line <= 16; line++) {
            x.write(7, 1);
        }
        check.due("16 lines", x.tear(), 16);
        check.due("no lines then", x.count(6), 0);
        check.due("nothing of the hour", x.sleep(7, 0), NONE);
        check.due("no quietest", x.quietest(), NONE);
        check.due("no lines again", x.tear(), 0);
        check.due("the first line", x.write(7, 0), 1);
        check.due("it alone counts", x.sleep(7, 0), 0);
    }

    private static void raidersAreAsked() {
        check.says("Promise 15", "Of a RAIDER: 0 FULL, 1 the TREE of his PLAN (-1: none), 2 APPLES (0), 3 HOW (0),"
                + " 4 how often he was CAUGHT. BAD.");
        OrchardWall x = Check.told("o0,1,1,9,0;t2,9,1;t3,9,1;p1;q20;w7;");
        check.due("full 1", x.raider(0, 0), 1);
        check.due("full 20", x.raider(1, 0), 20);
        isPlan(x, 0, -1, 0, 0);
        x.plan(1, 1, 20, 1);
        isPlan(x, 1, 1, 20, 1);
        x.plan(1, 1, 2, 0);
        check.due("never caught", x.raider(1, 4), 0);
        x.raid();
        x.raid();
        check.due("twice", x.raider(1, 4), 2);
        check.due("who did not go", x.raider(0, 4), 0);
        check.due("what -1", x.raider(0, -1), BAD);
        check.due("what 5", x.raider(0, 5), BAD);
        check.due("raider 2", x.raider(2, 0), 7);
        check.due("raider 3 of 3", x.raider(3, 0), BAD);
        check.due("raider -1", x.raider(-1, 0), BAD);
        check.due("raider least", x.raider(LEAST, 0), BAD);
        check.due("what greatest", x.raider(0, GREATEST), BAD);
        check.due("no orchard", new OrchardWall().raider(0, 0), BAD);
    }

    private static void fourRaidersEachHaveTheirOwn() {
        check.says("Promise 15", "1 the TREE of his PLAN (-1: none), 2 APPLES (0), 3 HOW (0), 4 how often he was");
        OrchardWall x = Check.told("o0,1,1,9,0;t2,9,1;t3,9,1;t8,9,1;t9,9,1;p20;p20;p20;p20;");
        for (int times = 0; times < 3; times++) {
            for (int raider = 0; raider < 4; raider++) {
                x.plan(raider, 3 - raider, 17 + raider, raider % 2);
            }
            for (int raider = 0; raider < 4; raider++) {
                isPlan(x, raider, 3 - raider, 17 + raider, raider % 2);
                check.due("caught", x.raider(raider, 4), times);
            }
            check.due("raids", x.count(4), times);
            check.due("all are caught", x.ahead(1), 15);
            // One goes to the next cell alone, and throws in 4.
            check.due("got", x.raid(), 1);
            check.due("got by all", x.count(5), times + 1);
        }
        for (int times = 2; times >= 0; times--) {
            x.undo();
            for (int raider = 0; raider < 4; raider++) {
                check.due("caught then", x.raider(raider, 4), times);
                check.due("how then", x.raider(raider, 3), raider % 2);
            }
            for (int raider = 0; raider < 4; raider++) {
                x.undo();
            }
        }
    }

    private static void treesAreAsked() {
        check.says("Promise 16", "Of a TREE: 0 CELL, 1 APPLES, 2 WORTH. BAD.");
        OrchardWall x = Check.told("o0,1,1,9,0;t23,0,9;t0,30,0;");
        check.due("cell 23", x.tree(0, 0), 23);
        check.due("no apples", x.tree(0, 1), 0);
        check.due("worth 9", x.tree(0, 2), 9);
        check.due("cell 0", x.tree(1, 0), 0);
        check.due("30 apples", x.tree(1, 1), 30);
        check.due("no worth", x.tree(1, 2), 0);
        check.due("what -1", x.tree(0, -1), BAD);
        check.due("what 3", x.tree(0, 3), BAD);
        check.due("tree -1", x.tree(-1, 0), BAD);
        check.due("tree 2 of 2", x.tree(2, 0), BAD);
        check.due("tree greatest", x.tree(GREATEST, 0), BAD);
        check.due("what least", x.tree(0, LEAST), BAD);
        check.due("no orchard", new OrchardWall().tree(0, 0), BAD);
    }

    private static void undoTellsHowMany() {
        check.says("Promise 9", "The latest ACT is undone: how many can be undone yet.");
        OrchardWall x = Check.told(QUIET);
        x.plan(0, 0, 1, 0);
        x.plan(0, 1, 2, 1);
        check.due("the latest", x.undo(), 1);
        isPlan(x, 0, 0, 1, 0);
        check.due("the first", x.undo(), 0);
        isPlan(x, 0, -1, 0, 0);
        x.plan(0, 2, 3, 0);
        check.due("one that was made behind", x.undo(), 0);
        isPlan(x, 0, -1, 0, 0);
    }

    private static void nothingToUndo() {
        check.says("Promise 9", "STATE: none.");
        OrchardWall x = new OrchardWall();
        check.due("no orchard", x.undo(), STATE);
        Check.tell(x, QUIET);
        check.due("no act", x.undo(), STATE);
        x.plan(0, 0, 1, 0);
        x.undo();
        check.due("all undone", x.undo(), STATE);
        check.due("and again", x.undo(), STATE);
        x.plan(0, 0, 1, 0);
        Check.tell(x, QUIET);
        check.due("another orchard", x.undo(), STATE);
        x.image(0);
        x.plan(0, 0, 1, 0);
        x.restore(0);
        check.due("an image", x.undo(), STATE);
        x.plan(0, 0, 1, 0);
        Check.tell(x, "x");
        check.due("a faulty text leaves it", x.undo(), 0);
    }

    private static void eachActIsUndone() {
        check.says("Terms 2", "a PLAN; a RAID (trees have fewer apples then; PLANS stay); apples that grow on a"
                + " TREE.");
        OrchardWall x = Check.told("o0,1,2,9,1;t2,9,1;t3,9,2;p9;q9;");
        x.plan(0, 0, 5, 0);
        x.plan(1, 1, 7, 1);
        int got = x.raid();
        // The door goes in 4, the dog is there in 6: both have had two by then, and two are thrown.
        check.due("got", got, 4);
        check.due("tree 0 has fewer", x.tree(0, 1), 7);
        check.due("tree 1 has fewer", x.tree(1, 1), 7);
        isPlan(x, 0, 0, 5, 0);
        isPlan(x, 1, 1, 7, 1);
        check.due("caught", x.raider(0, 4) + x.raider(1, 4), 2);
        check.due("grown", x.grow(1, 30), 37);
        check.due("taken away", x.plan(1, -1, 0, 0), 1);
        check.due("undo the plan", x.undo(), 4);
        isPlan(x, 1, 1, 7, 1);
        check.due("undo what grew", x.undo(), 3);
        check.due("tree 1 has fewer yet", x.tree(1, 1), 7);
        check.due("undo the raid", x.undo(), 2);
        check.due("tree 0 as before", x.tree(0, 1), 9);
        check.due("tree 1 as before", x.tree(1, 1), 9);
        check.due("raids", x.count(4), 0);
        check.due("got by all", x.count(5), 0);
        check.due("nobody caught", x.raider(0, 4) + x.raider(1, 4), 0);
        isPlan(x, 0, 0, 5, 0);
        check.due("raid anew", x.raid(), got);
    }

    private static void twentyFourActsAreKept() {
        check.says("Terms 2", "ACTS (24 at most are kept,");
        OrchardWall x = Check.told("o0,1,60,9,40;t2,0,1;p9;");
        for (int act = 1; act <= 24; act++) {
            x.grow(0, 1);
            check.due("acts", x.count(7), act);
        }
        for (int left = 23; left >= 0; left--) {
            check.due("undo", x.undo(), left);
            check.due("apples", x.tree(0, 1), left);
        }
        check.due("none is left", x.undo(), STATE);
    }

    private static void theOldestIsForgotten() {
        check.says("Terms 2", "of more the oldest is forgotten; each can be undone, the latest first):");
        for (int acts = 25; acts <= 60; acts += 7) {
            OrchardWall x = Check.told("o0,1,60,9,40;t2,0,1;p9;");
            for (int act = 1; act <= acts; act++) {
                check.due("grown", x.grow(0, 1), act);
            }
            check.due("24 are kept", x.count(7), 24);
            for (int left = 23; left >= 0; left--) {
                check.due("undo", x.undo(), left);
                check.due("apples", x.tree(0, 1), acts - 24 + left);
            }
            check.due("the oldest are forgotten", x.undo(), STATE);
            check.due("and stand", x.tree(0, 1), acts - 24);
        }
    }

    private static void onlyActsAreActs() {
        check.says("Terms 2", "ACTS (24 at most are kept, of more the oldest is forgotten; each can be undone, the"
                + " latest first): a PLAN; a RAID");
        OrchardWall x = Check.told(QUIET);
        x.plan(0, -1, 0, 0);
        check.due("no plan in place of none is one", x.count(7), 1);
        x.row(0, 0, 9);
        x.set(0, 0, 1);
        x.copy(0, 0, 0, 1, 1);
        x.drop(0);
        x.feed('o');
        x.write(0, 0);
        x.tear();
        x.image(0);
        x.as(0, 0);
        x.ask(0, 0);
        x.ahead(0);
        check.due("others are none", x.count(7), 1);
        check.due("raid, refused", x.raid(), STATE);
        check.due("a refused one is none", x.count(7), 1);
    }
}
