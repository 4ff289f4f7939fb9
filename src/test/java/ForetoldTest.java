import java.util.Arrays;

/** Promises 13, 14 and 25 to 31: shares, bare trees, who it was, the book, images. */
public final class ForetoldTest {
    private static final int BAD = OrchardWall.BAD, STATE = OrchardWall.STATE, FULL = OrchardWall.FULL;
    private static final int NONE = OrchardWall.NONE, NULL = -1000011, PLACE = -1000012;
    private static final Check check = new Check();

    public static void main(String[] args) {
        sharesHold();
        sharesOfWhoWatches();
        sharesAreRefused();
        treesAreBare();
        itWasThem();
        whoIsRefused();
        theBookIsWritten();
        theQuietestHour();
        imagesAreKept();
        imagesAreRefused();
        check.end();
    }

    private static void shares(OrchardWall x, int due, int... items) {
        Check.fill(x, 0, items);
        check.due("shares " + Arrays.toString(items), x.shares(0, 0), due);
    }

    private static OrchardWall twoWhoGetElevenTogether() {
        OrchardWall x = Check.told("o0,1,60,0,40;t2,30,1;t7,30,2;p5;p3;w1;");
        x.plan(0, 0, 5, 0);
        x.plan(1, 1, 3, 0);
        return x;
    }

    private static void sharesHold() {
        OrchardWall x = twoWhoGetElevenTogether();
        shares(x, 0, 5, 6, 0);
        shares(x, 1, 4, 7, 0);
        shares(x, 2, 6, 5, 0);
        shares(x, 1, 4, 5, 2);
        shares(x, NONE, 5, 6, 1);
        shares(x, NONE, 5, 5, 0);
        shares(x, 4, 6, 6, -1);
        // 11 by 32 bits, but not together.
        shares(x, NONE, Integer.MAX_VALUE, Integer.MAX_VALUE, 13);
        Check.fill(x, 0, 9, 9, 5, 6, 0);
        check.due("from 2 on", x.shares(0, 2), 0);
        check.due("nothing changes", x.tree(0, 1), 30);
        OrchardWall nobody = Check.told("o0,1,60,0,40;t2,30,1;");
        shares(nobody, 0);
        check.due("beyond the end", nobody.shares(0, 1), PLACE);
    }

    private static void sharesOfWhoWatches() {
        OrchardWall x = Check.told("o0,1,2,9,3;t2,30,1;p20;w1;p20;");
        x.plan(0, 0, 20, 0);
        check.due("they get", x.ahead(0), 2);
        shares(x, 0, 0, 2, 0);
        shares(x, 0, 2, 0, 0);
        shares(x, 3, 1, 0, 1);
        shares(x, 1, -1, 2, 1);
        shares(x, 2, 3, -1, 0);
    }

    private static void sharesAreRefused() {
        OrchardWall x = new OrchardWall();
        check.due("no orchard ahead of BAD", x.shares(8, 0), STATE);
        Check.tell(x, "o0,1,60,0,40;p1;p1;");
        check.due("row 8", x.shares(8, 0), BAD);
        check.due("row -1", x.shares(-1, 0), BAD);
        check.due("missing", x.shares(0, -1), NULL);
        Check.fill(x, 0, 0, 0, 0);
        check.due("place -1", x.shares(0, -1), PLACE);
        check.due("place 2", x.shares(0, 2), PLACE);
        check.due("status", x.status(), 2);
        check.due("place 1", x.shares(0, 1), 0);
        check.due("status", x.status(), 0);
    }

    private static void treesAreBare() {
        OrchardWall x = Check.told("o0,1,60,0,40;t2,30,2;p5;");
        check.due("no plan", x.bare(0), 0);
        check.due("no plan, much", x.bare(1), 0);
        x.plan(0, 0, 5, 0);
        check.due("six raids", x.bare(0), 6);
        check.due("six raids get", x.bare(1), 60);
        check.due("nothing changes", x.tree(0, 1), 30);
        check.due("no raid", x.count(4), 0);
        x.plan(0, 0, 1, 0);
        x.grow(0, 10);
        check.due("40 raids", x.bare(0), 40);
        check.due("40 raids get", x.bare(1), 80);
        x.grow(0, 1);
        check.due("41 are too many", x.bare(0), NONE);
        check.due("41 are too many, much", x.bare(1), NONE);
        check.due("what 2", x.bare(2), BAD);
        check.due("what -1", x.bare(-1), BAD);
        check.due("no orchard ahead of BAD", new OrchardWall().bare(2), STATE);
        OrchardWall caught = Check.told("o0,1,1,0,0;t3,30,2;p5;");
        caught.plan(0, 0, 5, 0);
        check.due("who is caught gets nothing", caught.bare(0), 0);
    }

    private static void who(OrchardWall x, int many, int least, int... items) {
        Check.fill(x, 0, items);
        check.due("who many " + Arrays.toString(items), x.who(0, 0, 0), many);
        check.due("who least " + Arrays.toString(items), x.who(0, 0, 1), least);
    }

    private static void itWasThem() {
        OrchardWall x = Check.told("o0,1,60,0,40;t2,30,1;t7,30,2;p5;p5;p3;w1;");
        who(x, 0, NONE, 0, 0);
        x.plan(0, 0, 5, 0);
        x.plan(1, 0, 5, 0);
        x.plan(2, 1, 3, 0);
        who(x, 2, 5, 5, 3);
        who(x, 2, 1, 5, 0);
        who(x, 1, 3, 10, 0);
        who(x, 1, 7, 10, 3);
        who(x, 1, 4, 0, 3);
        who(x, 0, NONE, 0, 0);
        who(x, 0, NONE, -5, 3);
        x.plan(1, -1, 0, 0);
        who(x, 1, 5, 5, 3);
        Check.fill(x, 0, 9, 5, 3);
        check.due("from 1 on", x.who(0, 1, 1), 5);
        OrchardWall watched = Check.told("o0,1,2,9,40;t2,30,1;p20;w1;");
        watched.plan(0, 0, 20, 1);
        who(watched, 1, 1, 5);
        who(watched, 0, NONE, 1);
        OrchardWall caught = Check.told("o0,1,2,9,3;t2,30,7;p20;");
        caught.plan(0, 0, 20, 0);
        who(caught, 1, 1, 4);
        who(Check.told("o0,1,2,9,3;p20;"), 0, NONE);
    }

    private static void whoIsRefused() {
        OrchardWall x = new OrchardWall();
        check.due("no orchard ahead of BAD", x.who(8, 0, 3), STATE);
        Check.tell(x, "o0,1,60,0,40;t2,1,1;t3,1,1;p1;");
        check.due("row 8", x.who(8, 0, 0), BAD);
        check.due("what 2", x.who(0, 0, 2), BAD);
        check.due("what -1", x.who(0, 0, -1), BAD);
        check.due("missing", x.who(0, -1, 0), NULL);
        Check.fill(x, 0, 0, 0, 0);
        check.due("place -1", x.who(0, -1, 0), PLACE);
        check.due("place 2", x.who(0, 2, 0), PLACE);
        check.due("place 1", x.who(0, 1, 0), 0);
    }

    private static void theBookIsWritten() {
        OrchardWall x = new OrchardWall();
        check.due("hour 24", x.write(24, 0), BAD);
        check.due("hour -1", x.write(-1, 0), BAD);
        check.due("slept 2", x.write(0, 2), BAD);
        check.due("slept -1", x.write(0, -1), BAD);
        check.due("nothing to tear", x.tear(), 0);
        for (int line = 1; line <= 16; line++) {
            check.due("line " + line, x.write(23, line > 6 ? 1 : 0), line);
        }
        check.due("17 lines", x.write(0, 0), FULL);
        check.due("17 lines, BAD first", x.write(24, 0), BAD);
        check.due("10 by 16, above", x.sleep(23, 0), 5);
        check.due("10 by 16, below", x.sleep(23, 1), 8);
        check.due("lines", x.count(6), 16);
        check.due("torn", x.tear(), 16);
        check.due("no lines", x.count(6), 0);
        check.due("no sleep", x.sleep(23, 0), NONE);
        check.due("anew", x.write(0, 0), 1);
        check.due("0 by 1, above", x.sleep(0, 0), 0);
        x.write(0, 0);
        check.due("0 by 1, below", x.sleep(0, 1), 1);
        check.due("sleep hour 24", x.sleep(24, 0), BAD);
        check.due("sleep hour -1", x.sleep(-1, 0), BAD);
        check.due("sleep what 2", x.sleep(0, 2), BAD);
        check.due("sleep what -1", x.sleep(0, -1), BAD);
    }

    private static void theQuietestHour() {
        OrchardWall x = new OrchardWall();
        check.due("none", x.quietest(), NONE);
        x.write(7, 0);
        check.due("never slept", x.quietest(), 7);
        x.write(3, 0);
        check.due("of several the first", x.quietest(), 3);
        x.write(9, 1);
        x.write(9, 1);
        x.write(9, 0);
        check.due("2 by 3", x.quietest(), 9);
        x.write(8, 1);
        x.write(8, 0);
        check.due("1 by 2 is less", x.quietest(), 9);
        x.write(20, 1);
        check.due("1 by 1 is more", x.quietest(), 20);
        x.write(19, 1);
        check.due("as much, ahead of it", x.quietest(), 19);
        x.tear();
        check.due("none then", x.quietest(), NONE);
    }

    private static void imagesAreKept() {
        OrchardWall x = Check.told("o0,1,1,0,0;t2,9,1;t3,9,9;p9;q9;");
        x.plan(0, 0, 9, 1);
        x.raid();
        check.due("kept", x.image(1), 1);
        check.due("no act", x.count(7), 2);
        x.plan(1, 1, 2, 0);
        x.raid();
        x.write(5, 1);
        check.due("restored", x.restore(1), 1);
        check.due("no acts", x.count(7), 0);
        check.due("nothing to undo", x.undo(), STATE);
        check.due("raids", x.count(4), 1);
        check.due("got", x.count(5), 1);
        check.due("caught", x.raider(0, 4), 1);
        check.due("apples", x.tree(0, 1), 8);
        check.due("plan", x.raider(0, 2), 9);
        check.due("no plan", x.raider(1, 1), -1);
        check.due("the book stays", x.count(6), 1);
        x.raid();
        check.due("the image is its own", x.restore(1), 1);
        check.due("apples anew", x.tree(0, 1), 8);
        Check.tell(x, "o5,6,60,9,40;h1,1;t9,5,5;w7;");
        check.due("another", x.image(0), 1);
        check.due("back to the first", x.restore(1), 1);
        check.due("trees", x.count(1), 2);
        check.due("raiders", x.count(2), 2);
        check.due("hens", x.count(3), 0);
        check.due("kind", x.kind(1), 2);
        check.due("cell", x.tree(1, 0), 3);
        check.due("caught again", x.ahead(1), 1);
        check.due("to the other", x.restore(0), 1);
        check.due("hens then", x.count(3), 1);
        check.due("worth then", x.tree(0, 2), 5);
        check.due("full then", x.raider(0, 0), 7);
    }

    private static void imagesAreRefused() {
        OrchardWall x = new OrchardWall();
        check.due("image 2", x.image(2), BAD);
        check.due("image -1", x.image(-1), BAD);
        check.due("no orchard", x.image(0), STATE);
        check.due("restore 2", x.restore(2), BAD);
        check.due("restore -1", x.restore(-1), BAD);
        check.due("none was kept", x.restore(0), STATE);
        Check.tell(x, "o0,1,1,0,0;");
        x.image(0);
        check.due("none was kept of the other", x.restore(1), STATE);
        check.due("kept", x.restore(0), 1);
    }
}
