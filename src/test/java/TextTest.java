/** Promises 6 to 8: the tape, the reading of an orchard, its faults. */
public final class TextTest {
    private static final String LAW = "o0,1,1,0,0;";
    private static final Check check = new Check();

    public static void main(String[] args) {
        bytesAreFed();
        orchardsAreRead();
        tokensAreWrong();
        numbersAreNotAsTold();
        thereIsNoRoom();
        theFirstFaultCounts();
        faultsChangeNothing();
        aNewOrchardStandsAlone();
        check.end();
    }

    private static void faulty(String text, int place, int number) {
        OrchardWall x = new OrchardWall();
        check.due(text, Check.tell(x, text), -1000100 - place);
        check.due("fault of " + text, x.fault(), number);
        check.due("tape behind " + text, x.count(8), 0);
    }

    private static void fine(String text, int trees, int raiders, int hens) {
        OrchardWall x = new OrchardWall();
        check.due(text, Check.tell(x, text), trees);
        check.due("fault of " + text, x.fault(), 0);
        check.due("trees of " + text, x.count(1), trees);
        check.due("raiders of " + text, x.count(2), raiders);
        check.due("hens of " + text, x.count(3), hens);
    }

    private static void bytesAreFed() {
        OrchardWall x = new OrchardWall();
        check.due("feed -1", x.feed(-1), OrchardWall.BAD);
        check.due("feed 256", x.feed(256), OrchardWall.BAD);
        for (int i = 1; i <= 120; i++) {
            check.due("feed " + i, x.feed(i % 2 == 0 ? 0 : 255), i);
        }
        check.due("feed 121", x.feed(97), OrchardWall.FULL);
        check.due("feed 121, BAD first", x.feed(256), OrchardWall.BAD);
        check.due("bytes", x.count(8), 120);
        check.due("read", x.orchard(), -1000100);
        check.due("bytes then", x.count(8), 0);
        check.due("feed anew", x.feed(97), 1);
    }

    private static void orchardsAreRead() {
        fine(LAW, 0, 0, 0);
        fine("o23,0,60,9,40;", 0, 0, 0);
        fine("o00,01,01,00,00;", 0, 0, 0);
        fine(LAW + "h0,1;h0,1;h0,9;", 0, 0, 3);
        fine(LAW + "p1;q2;s3;w20;", 0, 4, 0);
        fine(LAW + "k20;", 0, 1, 0);
        fine(LAW + "t0,30,9;t2,0,0;t3,1,1;t4,1,1;t5,1,1;t23,1,1;", 6, 0, 0);
        fine(LAW + "h23,9;t23,9,9;p9;", 1, 1, 1);
        OrchardWall x = Check.told("o0,1,1,0,0;t22,30,9;t5,07,3;q17;k2;");
        check.due("cell", x.tree(0, 0), 22);
        check.due("apples", x.tree(1, 1), 7);
        check.due("worth", x.tree(1, 2), 3);
        check.due("full", x.raider(0, 0), 17);
        check.due("kind", x.kind(1), 5);
    }

    private static void tokensAreWrong() {
        faulty("", 0, 1);
        faulty("t", 0, 1);
        faulty("1", 0, 1);
        faulty("o", 1, 1);
        faulty("oo", 1, 1);
        faulty("o,", 1, 1);
        faulty("o0;1", 2, 1);
        faulty("o 0,1,1,0,0;", 1, 1);
        faulty("O0,1,1,0,0;", 0, 1);
        faulty("o-1,1,1,0,0;", 1, 1);
        faulty("o001,1,1,0,0;", 1, 1);
        faulty("o0,1234,1,0,0;", 3, 1);
        faulty("o0,1,1,0,0,", 10, 1);
        faulty("o0,1,1,0,0", 10, 1);
        faulty(LAW + "o", 11, 1);
        faulty(LAW + "5", 11, 1);
        faulty(LAW + "555", 11, 1);
        faulty(LAW + "x", 11, 1);
        faulty(LAW + ";", 11, 1);
        faulty(LAW + (char) 233, 11, 1);
        faulty(LAW + "h1,1", 15, 1);
        faulty(LAW + "h1;", 13, 1);
        faulty(LAW + "t2,1;", 15, 1);
        faulty(LAW + "p1,", 13, 1);
        faulty(LAW + "p;", 12, 1);
        faulty(LAW + "pp", 12, 1);
        faulty(LAW + "t2,1,1;h1,1;", 18, 1);
        faulty(LAW + "p1;t2,1,1;", 14, 1);
        faulty(LAW + "p1;h2,1;", 14, 1);
        faulty(LAW + "p100;", 12, 1);
    }

    private static void numbersAreNotAsTold() {
        faulty("o24,0,1,0,0;", 1, 2);
        faulty("o5,5,1,0,0;", 3, 2);
        faulty("o5,05,1,0,0;", 3, 2);
        faulty("o0,24,1,0,0;", 3, 2);
        faulty("o0,1,0,0,0;", 5, 2);
        faulty("o0,1,61,0,0;", 5, 2);
        faulty("o0,1,1,10,0;", 7, 2);
        faulty("o0,1,1,0,41;", 9, 2);
        faulty(LAW + "h24,1;", 12, 2);
        faulty(LAW + "h0,0;", 14, 2);
        faulty(LAW + "h0,10;", 14, 2);
        faulty(LAW + "t24,1,1;", 12, 2);
        faulty(LAW + "t1,1,1;", 12, 2);
        faulty(LAW + "t2,1,1;t2,1,1;", 19, 2);
        faulty(LAW + "t2,31,1;", 14, 2);
        faulty(LAW + "t2,1,10;", 16, 2);
        faulty(LAW + "p0;", 12, 2);
        faulty(LAW + "k21;", 12, 2);
    }

    private static void thereIsNoRoom() {
        faulty(LAW + "h0,1;h0,1;h0,1;h", 26, 3);
        faulty(LAW + "t0,1,1;t2,1,1;t3,1,1;t4,1,1;t5,1,1;t6,1,1;t1,1,1;", 53, 3);
        faulty(LAW + "p1;q1;s1;w1;k0", 23, 3);
        faulty(LAW + "h0,1;h0,1;h0,1;t2,1,1;h", 33, 1);
    }

    private static void theFirstFaultCounts() {
        faulty("o24,,", 1, 2);
        faulty("o0,0x", 3, 2);
        faulty(LAW + "p0p", 12, 2);
        faulty(LAW + "h0,1 ;h99,1;", 15, 1);
        faulty(LAW + "t1,99,99;", 12, 2);
    }

    private static void faultsChangeNothing() {
        OrchardWall x = Check.told(LAW + "t2,9,1;p9;");
        x.plan(0, 0, 5, 0);
        check.due("faulty", Check.tell(x, LAW + "t3,3,3;w3;w"), -1000100 - 22);
        check.due("fault", x.fault(), 1);
        check.due("cell stays", x.tree(0, 0), 2);
        check.due("plan stays", x.raider(0, 2), 5);
        check.due("acts stay", x.count(7), 1);
        check.due("faulty", Check.tell(x, "o24"), -1000101);
        check.due("the latest fault", x.fault(), 2);
        check.due("read", Check.tell(x, LAW), 0);
        check.due("the latest fault yet", x.fault(), 2);
    }

    private static void aNewOrchardStandsAlone() {
        OrchardWall x = Check.told(LAW + "t2,9,1;t3,9,9;p9;q9;");
        x.plan(0, 0, 9, 1);
        x.raid();
        x.write(3, 1);
        check.due("raids", x.count(4), 1);
        check.due("acts", x.count(7), 2);
        check.due("caught", x.raider(0, 4), 1);
        check.due("got", x.count(5), 1);
        check.due("read", Check.tell(x, LAW + "t2,9,1;p9;"), 1);
        check.due("no raids", x.count(4), 0);
        check.due("nothing got", x.count(5), 0);
        check.due("no acts", x.count(7), 0);
        check.due("nothing to undo", x.undo(), OrchardWall.STATE);
        check.due("no plan", x.raider(0, 1), -1);
        check.due("not caught", x.raider(0, 4), 0);
        check.due("the book stays", x.count(6), 1);
        check.due("one raider", x.kind(1), OrchardWall.BAD);
        check.due("apples anew", x.tree(0, 1), 9);
    }
}
