/** Promises 28 to 31: the book's hours, images; the empty, the full, bounds and refusals. */
public final class EdgeBookTest {
    private static final int BAD = OrchardWall.BAD, STATE = OrchardWall.STATE, FULL = OrchardWall.FULL;
    private static final int NONE = OrchardWall.NONE;
    private static final int LEAST = Integer.MIN_VALUE, GREATEST = Integer.MAX_VALUE;
    private static final String SMALL = "o0,1,60,9,40;t2,9,1;p9;";
    private static final Check check = new Check();

    public static void main(String[] args) {
        theBookHasSixteenLines();
        sleepIsAFraction();
        sleepIsNone();
        sleepIsRefused();
        theQuietestIsTheFirst();
        theQuietestIsNone();
        imagesAreTwo();
        imageIsRefused();
        restoreIsAsItWasKept();
        restoreLeavesTheRest();
        restoreIsRefused();
        check.end();
    }

    private static void theBookHasSixteenLines() {
        check.says("Terms 3", "THE BOOK: 16 lines at most: an HOUR (0 to 23), whether the dog slept (1, 0).");
        OrchardWall x = new OrchardWall();
        check.due("hour 0", x.write(0, 1), 1);
        check.due("hour 23", x.write(23, 0), 2);
        for (int line = 3; line <= 16; line++) {
            check.due("line " + line, x.write(9, 1), line);
        }
        check.due("line 17", x.write(9, 1), FULL);
        check.due("lines", x.count(6), 16);
        check.due("slept at 0", x.sleep(0, 0), 1);
        check.due("slept at 23", x.sleep(23, 0), 0);
        check.due("slept at 9", x.sleep(9, 0), 1);
        check.due("hour 24", x.write(24, 1), BAD);
        check.due("hour -1", x.write(-1, 1), BAD);
    }

    private static void sleepIsAFraction() {
        check.says("Terms 3", "SLEEP in an HOUR: how often of all lines of it: a fraction;");
        check.says("Promise 28", "SLEEP: above (what = 0), below (1);");
        for (int slept = 0; slept <= 16; slept++) {
            OrchardWall x = new OrchardWall();
            for (int line = 0; line < 16; line++) {
                x.write(23, line < slept ? 1 : 0);
            }
            int common = slept == 0 ? 16 : Integer.lowestOneBit(Math.min(slept, 16));
            check.due("above, of 16 " + slept, x.sleep(23, 0), slept / common);
            check.due("below, of 16 " + slept, x.sleep(23, 1), 16 / common);
        }
        OrchardWall x = new OrchardWall();
        x.write(5, 1);
        x.write(6, 0);
        check.due("lines of another hour do not count, above", x.sleep(5, 0), 1);
        check.due("lines of another hour do not count, below", x.sleep(5, 1), 1);
    }

    private static void sleepIsNone() {
        check.says("Terms 3", "NONE, if there are none.");
        check.says("Promise 28", "below (1); NONE.");
        OrchardWall x = new OrchardWall();
        check.due("an empty book, above", x.sleep(0, 0), NONE);
        check.due("an empty book, below", x.sleep(23, 1), NONE);
        x.write(5, 0);
        check.due("another hour, above", x.sleep(4, 0), NONE);
        check.due("another hour, below", x.sleep(6, 1), NONE);
        check.due("never slept is not none, above", x.sleep(5, 0), 0);
        check.due("never slept is not none, below", x.sleep(5, 1), 1);
    }

    private static void sleepIsRefused() {
        check.says("Promise 28", "BAD.");
        OrchardWall x = new OrchardWall();
        x.write(0, 1);
        x.write(23, 1);
        check.due("hour 0", x.sleep(0, 0), 1);
        check.due("hour -1", x.sleep(-1, 0), BAD);
        check.due("hour 23", x.sleep(23, 0), 1);
        check.due("hour 24", x.sleep(24, 0), BAD);
        check.due("hour least", x.sleep(LEAST, 0), BAD);
        check.due("hour greatest", x.sleep(GREATEST, 0), BAD);
        check.due("what -1", x.sleep(0, -1), BAD);
        check.due("what 2", x.sleep(0, 2), BAD);
        check.due("what 2, no lines", x.sleep(5, 2), BAD);
    }

    private static void theQuietestIsTheFirst() {
        check.says("Terms 3", "QUIETEST: the HOUR whose SLEEP is greatest, of several the first;");
        OrchardWall x = new OrchardWall();
        x.write(23, 0);
        check.due("the only one, though it never slept", x.quietest(), 23);
        x.write(22, 0);
        check.due("as great, ahead of it", x.quietest(), 22);
        x.write(23, 1);
        check.due("1 by 2", x.quietest(), 23);
        x.write(7, 1);
        x.write(7, 1);
        x.write(7, 0);
        check.due("2 by 3", x.quietest(), 7);
        x.write(0, 1);
        x.write(0, 0);
        check.due("1 by 2 ahead of it is less", x.quietest(), 7);
        x.write(23, 1);
        check.due("2 by 3 behind it is as great", x.quietest(), 7);
        x.write(23, 1);
        check.due("3 by 4", x.quietest(), 23);
        x.write(22, 1);
        x.write(22, 1);
        x.write(22, 1);
        check.due("3 by 4 ahead of it", x.quietest(), 22);
        x.write(1, 1);
        check.due("1 by 1", x.quietest(), 1);
    }

    private static void theQuietestIsNone() {
        check.says("Promise 29", "QUIETEST; NONE.");
        check.says("Terms 3", "of several the first; NONE.");
        OrchardWall x = new OrchardWall();
        check.due("an empty book", x.quietest(), NONE);
        x.write(0, 0);
        check.due("a line", x.quietest(), 0);
        x.tear();
        check.due("torn", x.quietest(), NONE);
    }

    private static void imagesAreTwo() {
        check.says("Promise 30", "An IMAGE (0, 1) is kept of the ORCHARD: 1.");
        OrchardWall x = Check.told(SMALL);
        check.due("image 0", x.image(0), 1);
        x.grow(0, 1);
        check.due("image 1", x.image(1), 1);
        x.grow(0, 1);
        check.due("keeping one is no act, and forgets none", x.count(7), 2);
        check.due("restore 0", x.restore(0), 1);
        check.due("as it was", x.tree(0, 1), 9);
        check.due("restore 1", x.restore(1), 1);
        check.due("as it was then", x.tree(0, 1), 10);
        x.grow(0, 5);
        check.due("kept anew", x.image(0), 1);
        x.grow(0, 5);
        x.restore(0);
        check.due("in place of what was kept", x.tree(0, 1), 15);
        x.restore(1);
        check.due("the other stays", x.tree(0, 1), 10);
    }

    private static void imageIsRefused() {
        check.says("Promise 30", "BAD; STATE: no ORCHARD.");
        OrchardWall x = new OrchardWall();
        check.due("no orchard, 0", x.image(0), STATE);
        check.due("no orchard, 1", x.image(1), STATE);
        check.due("no orchard, 2", x.image(2), BAD);
        check.due("nothing was kept", x.restore(0), STATE);
        Check.tell(x, SMALL);
        check.due("-1", x.image(-1), BAD);
        check.due("2", x.image(2), BAD);
        check.due("least", x.image(LEAST), BAD);
        check.due("greatest", x.image(GREATEST), BAD);
        check.due("nothing was kept yet", x.restore(1), STATE);
    }

    private static void restoreIsAsItWasKept() {
        check.says("Promise 31", "The ORCHARD is as an IMAGE kept it (no ACT can be undone then): 1.");
        OrchardWall x = Check.told("o0,1,1,9,0;t2,9,1;t3,9,9;p9;q9;");
        x.plan(0, 0, 9, 1);
        x.raid();
        x.image(0);
        int got = x.count(5);
        x.plan(0, 1, 2, 0);
        x.plan(1, 1, 2, 0);
        x.raid();
        x.grow(0, 7);
        check.due("restored", x.restore(0), 1);
        check.due("no act", x.count(7), 0);
        check.due("undo", x.undo(), STATE);
        check.due("raids", x.count(4), 1);
        check.due("got", x.count(5), got);
        check.due("caught", x.raider(0, 4), 1);
        check.due("his tree", x.raider(0, 1), 0);
        check.due("his apples", x.raider(0, 2), 9);
        check.due("his how", x.raider(0, 3), 1);
        check.due("the other's plan", x.raider(1, 1), -1);
        check.due("apples of tree 0", x.tree(0, 1), 8);
        check.due("apples of tree 1", x.tree(1, 1), 9);
        x.plan(1, 0, 1, 0);
        check.due("an act behind it", x.undo(), 0);
        check.due("is undone up to the image", x.undo(), STATE);
        check.due("restored again", x.restore(0), 1);
        check.due("as it was kept yet", x.tree(0, 1), 8);
    }

    private static void restoreLeavesTheRest() {
        check.says("Promise 31", "The ORCHARD is as an IMAGE kept it");
        OrchardWall x = Check.told("o0,1,9,9,40;h2,9;t2,9,1;p9;w3;");
        x.image(0);
        Check.tell(x, "o5,4,60,0,0;t3,7,3;t9,8,4;q2;");
        x.image(1);
        x.write(7, 1);
        x.row(0, 2, 9);
        x.feed('o');
        Check.tell(x, "x");
        x.feed('o');
        check.due("the orchard of before", x.restore(0), 1);
        check.due("its trees", x.count(1), 1);
        check.due("its raiders", x.count(2), 2);
        check.due("its hens", x.count(3), 1);
        check.due("a watch", x.kind(1), 4);
        x.plan(0, 0, 1, 0);
        check.due("its law and its hens", x.ahead(2), 2);
        check.due("the book stays", x.count(6), 1);
        check.due("rows stay", x.drop(0), 9);
        check.due("the tape stays", x.count(8), 1);
        check.due("the fault stays", x.fault(), 1);
        check.due("the one behind", x.restore(1), 1);
        check.due("its trees", x.count(1), 2);
        check.due("its raiders", x.count(2), 1);
        check.due("no hens", x.count(3), 0);
        check.due("its worth", x.tree(1, 2), 4);
        check.due("a quick one", x.kind(0), 2);
        x.plan(0, 0, 1, 0);
        check.due("its law", x.ahead(2), NONE);
    }

    private static void restoreIsRefused() {
        check.says("Promise 31", "BAD; STATE: none was kept.");
        OrchardWall x = new OrchardWall();
        check.due("0", x.restore(0), STATE);
        check.due("1", x.restore(1), STATE);
        check.due("-1", x.restore(-1), BAD);
        check.due("2", x.restore(2), BAD);
        Check.tell(x, SMALL);
        check.due("an orchard, but no image", x.restore(0), STATE);
        x.image(1);
        check.due("of the other one", x.restore(0), STATE);
        check.due("1", x.restore(1), 1);
        check.due("least", x.restore(LEAST), BAD);
        check.due("greatest", x.restore(GREATEST), BAD);
    }
}
