/** What walls are told ahead of a call that must change nothing: something of everything, or as much as can be. */
final class Tellings {
    /** Raiders 0 (a picker) and 1 (a quick one) have plans, 2 is a watch; rows 4 to 7 are missing; status() is 1. */
    static final String RICH = "o0,1,6,2,3;h9,1;t2,9,2;t8,7,3;p5;q4;w3;";

    private Tellings() {
    }

    static void rich(OrchardWall x) {
        Check.tell(x, RICH);
        x.plan(0, 0, 2, 0);
        x.raid();
        x.image(1);
        x.plan(1, 1, 4, 1);
        x.grow(0, 5);
        x.raid();
        x.image(0);
        x.plan(0, 1, 3, 1);
        Check.fillLane(x, 0, 0, 1, 2, 3, 4, 5, 6, 21);
        Check.fillLane(x, 1, 1, 20, 0, 9, 9, 1, 17);
        Check.fillLane(x, 2, 2, 8, 7, 6, 5, 4, 3, 2, 1);
        x.row(3, 2, 0);
        x.write(4, 1);
        x.write(4, 0);
        x.write(8, 0);
        x.ask(1, 0);
        Check.feed(x, "o5,4,3,2,1;t9,9,9;s7");
        x.drop(7);
    }

    /** No orchard, but rows, a tape and a book. */
    static void without(OrchardWall x) {
        Check.fillLane(x, 0, 0, 1, 2, 3, 4, 5, 6);
        x.write(12, 1);
        Check.feed(x, "o5,4,3,2,1;");
        x.row(0, 0, -1);
    }

    static void fullTape(OrchardWall x) {
        Check.feed(x, "o5,4,3,2,1;");
        for (int bytes = 11; bytes < 120; bytes++) {
            x.feed(255);
        }
    }

    static void fullBook(OrchardWall x) {
        for (int line = 0; line < 16; line++) {
            x.write(line, line % 2);
        }
    }

    /** Tree 0 has 60 apples, tree 1 has 31. */
    static void fullTrees(OrchardWall x) {
        Check.tell(x, "o0,1,60,9,40;t2,30,1;t3,1,1;p3;");
        x.plan(0, 0, 2, 0);
        x.grow(0, 30);
        x.grow(1, 30);
    }

    static void fullActs(OrchardWall x) {
        Check.tell(x, "o0,1,60,9,40;t2,9,1;p3;w1;");
        for (int apples = 1; apples <= 20; apples++) {
            x.plan(0, 0, apples, 0);
        }
        for (int grown = 1; grown <= 4; grown++) {
            x.grow(0, grown);
        }
    }

    static void fullRaids(OrchardWall x) {
        Check.tell(x, "o0,1,60,9,40;t2,9,1;p3;");
        x.plan(0, 0, 2, 0);
        for (int raid = 0; raid < 99; raid++) {
            x.raid();
        }
        x.image(0);
        x.restore(0);
        x.grow(0, 7);
    }
}
