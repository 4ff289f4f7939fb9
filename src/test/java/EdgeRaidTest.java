import java.util.ArrayList;
import java.util.List;

/** What "Terms" says of a raid, second by second: paces, picking, hens, the door, the dog, each at its bound. */
public final class EdgeRaidTest {
    private static final int NONE = OrchardWall.NONE;
    private static final Check check = new Check();

    public static void main(String[] args) {
        waysGoAlongFirst();
        allWays();
        waysBackAreTheSame();
        allBeginAtEntry();
        stepsTakeThePace();
        pickingBeginsInTheNextSecond();
        whoIsAtEntryComingBackIsOut();
        anAppleTakesTwoSeconds();
        anEmptyTreeIsNoNoise();
        noiseOfPicking();
        pickingEnds();
        theFirstInOrderHasTheLastApple();
        pacesByLoad();
        hensAreHeardInTheCellAndBesideIt();
        allHensAreHeard();
        theDoorGoesAtEars();
        theDoorGoesOnce();
        delaysToTheSecond();
        calledBackWithNoSeconds();
        whoComesBackGoesOn();
        whoIsAtEntryIsOut();
        theDogIsThereToTheSecond();
        inThisOrder();
        noRaidLastsLonger();
        theRaidEnds();
        whatIsLost();
        whatIsGot();
        check.end();
    }

    /** Raider 0 alone goes to tree 0. */
    private static OrchardWall one(String text, int apples, int how) {
        OrchardWall x = Check.told(text);
        check.due(text, x.plan(0, 0, apples, how), 0);
        return x;
    }

    private static OrchardWall two(String text, int apples, int how, int otherApples, int otherHow) {
        OrchardWall x = one(text, apples, how);
        check.due(text, x.plan(1, x.count(1) - 1, otherApples, otherHow), 0);
        return x;
    }

    private static void waysGoAlongFirst() {
        check.says("Terms 2", "The WAY from one to another: CELL by CELL, x first, then y;");
        // From 0 to 14 by 1, 2, 8: at 2 in second 4, beside the hens of 3.
        check.due("by 2", one("o5,0,9,9,40;h3,9;t14,9,1;p9;", 1, 0).ahead(2), 4);
        check.due("not by 6 and 12", one("o5,0,9,9,40;h12,9;t14,9,1;p9;", 1, 0).ahead(2), NONE);
        // From 14 to 0 by 13, 12, 6.
        check.due("by 12", one("o5,14,9,9,40;h18,9;t0,9,1;p9;", 1, 0).ahead(2), 4);
        check.due("not by 8 and 2", one("o5,14,9,9,40;h2,9;t0,9,1;p9;", 1, 0).ahead(2), NONE);
        check.due("there and back", one("o5,0,60,9,40;t14,9,1;p9;", 1, 0).ahead(3), 8 + 2 + 8);
    }

    /** The cells of a way, entry first. */
    private static List<Integer> way(int entry, int tree) {
        List<Integer> cells = new ArrayList<>(List.of(entry));
        int cell = entry;
        while (cell % 6 != tree % 6) {
            cell += cell % 6 < tree % 6 ? 1 : -1;
            cells.add(cell);
        }
        while (cell != tree) {
            cell += cell < tree ? 6 : -6;
            cells.add(cell);
        }
        return cells;
    }

    /** When the only hens are heard first on the way there, or back; he picks one, which takes two seconds. */
    private static int heard(List<Integer> way, int hens) {
        int far = way.size() - 1;
        for (int step = 1; step <= 2 * far; step++) {
            int cell = way.get(step <= far ? step : 2 * far - step);
            if (Math.abs(cell % 6 - hens % 6) + Math.abs(cell / 6 - hens / 6) <= 1) {
                return 2 * step + (step > far ? 2 : 0);
            }
        }
        return NONE;
    }

    private static void allWays() {
        check.says("Terms 2", "CELL by CELL, x first, then y; back the same CELLS.");
        for (int entry = 0; entry <= 23; entry++) {
            int house = (entry + 1) % 24;
            for (int tree = 0; tree <= 23; tree++) {
                int hens = (5 * entry + 7 * tree) % 24;
                if (tree != entry) {
                    String law = "o" + house + "," + entry + ",9,9,40;";
                    OrchardWall x = one(law + "h" + hens + ",9;t" + tree + ",9,1;p9;", 1, 0);
                    String name = entry + " to " + tree + ", hens in " + hens;
                    check.due(name, x.ahead(2), heard(way(entry, tree), hens));
                }
            }
        }
    }

    private static void waysBackAreTheSame() {
        check.says("Terms 2", "back the same CELLS.");
        check.says("Terms 2", "he comes to the next CELL of his WAY (to the TREE; BACK the same CELLS to ENTRY),");
        // At 2 in second 4, picked in 10, at 8 in 12, at 2 again in 14: 9, 10, 19.
        check.due("by 2 again", one("o5,0,19,9,40;h3,9;t14,9,1;p9;", 1, 0).ahead(2), 14);
        check.due("not by 13 and 12", one("o5,0,2,9,40;h12,9;t14,9,1;p9;", 1, 0).ahead(2), NONE);
    }

    private static void allBeginAtEntry() {
        check.says("Terms 2", "A RAID, SECOND by SECOND (1, 2, ..): all who have a PLAN are at ENTRY and GO, LOAD"
                + " 0; NOISE is 0.");
        // The hens of 6 are beside entry, not beside 1: they are heard when he is back, not when he begins.
        OrchardWall x = one("o23,0,10,0,0;h6,9;t1,9,1;p9;", 1, 0);
        check.due("the door", x.ahead(2), 6);
        check.due("out", x.raiderAhead(0, 0), 6);
        check.due("nobody is caught", x.ahead(1), 0);
        check.due("nobody has a plan", Check.told("o23,0,1,0,0;h6,9;t1,9,1;p9;").ahead(3), 0);
        x.raid();
        check.due("the next raid begins anew", x.ahead(2), 6);
    }

    private static void stepsTakeThePace() {
        check.says("Terms 2", "In each SECOND each of them who is not OUT, in order: who GOES, or comes BACK, has a"
                + " SECOND more; if these are his PACE, he comes to the next CELL");
        check.says("Terms 2", "and has 0 SECONDS;");
        for (int far = 1; far <= 5; far++) {
            String law = "o23,0,60,9,40;t" + far + ",9,1;";
            check.due("a picker, " + far, one(law + "p9;", 1, 0).ahead(3), 2 * far + 2 + 2 * far);
            check.due("a quick one, " + far, one(law + "q9;", 1, 0).ahead(3), far + 2 + far);
            check.due("a stout one, " + far, one(law + "s9;", 1, 0).ahead(3), 2 * far + 2 + 2 * far);
        }
    }

    private static void pickingBeginsInTheNextSecond() {
        check.says("Terms 2", "if that is the TREE's, GOING, he PICKS from the next SECOND on;");
        check.due("a picker's first apple", one("o0,1,1,9,40;t2,9,1;p9;", 1, 0).ahead(2), 4);
        check.due("a quick one's", one("o0,1,1,9,40;t2,9,1;q9;", 1, 0).ahead(2), 3);
        // By tree 0 on the way to tree 1 he goes on.
        OrchardWall x = Check.told("o0,1,1,9,40;t2,9,1;t3,9,1;p9;");
        x.plan(0, 1, 1, 0);
        check.due("from the farther tree", x.ahead(2), 6);
        check.due("none of the nearer", x.raid() * 10 + x.tree(0, 1), 19);
    }

    private static void whoIsAtEntryComingBackIsOut() {
        check.says("Terms 2", "if it is ENTRY, coming BACK, he is OUT.");
        check.says("Terms 3", "Of a RAIDER the SECOND in which he is OUT");
        OrchardWall x = two("o0,1,60,9,40;t2,9,1;t4,9,1;p9;p9;", 1, 0, 1, 0);
        check.due("the first", x.raiderAhead(0, 0), 6);
        check.due("the second", x.raiderAhead(1, 0), 14);
        check.due("the last second", x.ahead(3), 14);
    }

    private static void anAppleTakesTwoSeconds() {
        check.says("Terms 2", "Who PICKS has a SECOND more; if these are 2, he has 0, and, if the TREE has an"
                + " apple, it has one less,");
        for (int apples = 1; apples <= 5; apples++) {
            check.due(apples + " thrown", one("o0,1,60,9,40;t2,9,1;p9;", apples, 1).ahead(3), 2 + 2 * apples + 2);
        }
        OrchardWall x = one("o0,1,60,9,40;t2,9,1;p9;", 9, 0);
        x.raid();
        check.due("all are picked", x.tree(0, 1), 0);
    }

    private static void anEmptyTreeIsNoNoise() {
        check.says("Terms 2", "if the TREE has an apple,");
        for (int how = 0; how <= 1; how++) {
            OrchardWall x = one("o0,1,1,9,40;t2,0,9;p9;", 20, how);
            check.due("got", x.ahead(0), 0);
            check.due("the door", x.ahead(2), NONE);
            check.due("he looks when his two seconds are over", x.ahead(3), 6);
            x.raid();
            check.due("no fewer than none", x.tree(0, 1), 0);
        }
    }

    private static void noiseOfPicking() {
        check.says("Terms 2", "NOISE is 1 more, he has it: LOAD is 1 more, or, if he throws, it is over the wall,"
                + " NOISE 1 more yet;");
        check.due("1 carried", one("o0,1,1,9,40;t2,9,1;p9;", 1, 0).ahead(2), 4);
        check.due("1 carried is not 2", one("o0,1,2,9,40;t2,9,1;p9;", 1, 0).ahead(2), NONE);
        check.due("2 carried", one("o0,1,2,9,40;t2,9,1;p9;", 2, 0).ahead(2), 6);
        check.due("1 thrown", one("o0,1,2,9,40;t2,9,1;p9;", 1, 1).ahead(2), 4);
        check.due("1 thrown is not 3", one("o0,1,3,9,40;t2,9,1;p9;", 1, 1).ahead(2), NONE);
        check.due("2 thrown", one("o0,1,4,9,40;t2,9,1;p9;", 2, 1).ahead(2), 6);
        // Over the wall: no load that slows him.
        check.due("20 thrown", one("o0,1,60,9,40;t2,30,1;p20;", 20, 1).ahead(3), 2 + 40 + 2);
        check.due("20 carried", one("o0,1,60,9,40;t2,30,1;p20;", 20, 0).ahead(3), 2 + 40 + 5);
    }

    private static void got(String name, String text, int apples, int how, int got) {
        OrchardWall x = one(text, apples, how);
        check.due(name, x.raiderAhead(0, 1), got);
        check.due(name + ", picked", 30 - x.tree(0, 1) + x.raid(), got);
    }

    private static void pickingEnds() {
        check.says("Terms 2", "if he has had as many as PLANNED, or LOAD is FULL, or the TREE has none, he comes"
                + " BACK from the next SECOND on.");
        got("planned 1", "o0,1,60,9,40;t2,30,1;p20;", 1, 0, 1);
        got("planned 20", "o0,1,60,9,40;t2,30,1;p20;", 20, 0, 20);
        got("planned 20, thrown", "o0,1,60,9,40;t2,30,1;p20;", 20, 1, 20);
        got("full 1", "o0,1,60,9,40;t2,30,1;p1;", 20, 0, 1);
        got("full 19", "o0,1,60,9,40;t2,30,1;p19;", 20, 0, 19);
        got("full 1, thrown", "o0,1,60,9,40;t2,30,1;p1;", 20, 1, 20);
        OrchardWall x = one("o0,1,60,9,40;t2,2,1;p20;", 3, 0);
        check.due("the tree has 2", x.ahead(0), 2);
        check.due("and with the second none", x.ahead(3), 2 + 4 + 2);
        check.due("from the next second on", one("o0,1,60,9,40;t2,9,1;q9;", 1, 0).ahead(3), 1 + 2 + 1);
    }

    private static void theFirstInOrderHasTheLastApple() {
        check.says("Terms 2", "In each SECOND each of them who is not OUT, in order:");
        OrchardWall x = two("o0,1,60,9,40;t2,1,1;p9;p9;", 9, 0, 9, 0);
        check.due("the first", x.raiderAhead(0, 1), 1);
        check.due("the second", x.raiderAhead(1, 1), 0);
        check.due("the second looks, and goes", x.raiderAhead(1, 0), 6);
        OrchardWall y = two("o0,1,60,9,40;t2,1,1;p9;q9;", 9, 0, 9, 0);
        check.due("the slower", y.raiderAhead(0, 1), 0);
        check.due("the quicker", y.raiderAhead(1, 1), 1);
    }

    private static void pace(char sort, int apples, int there, int back) {
        OrchardWall x = one("o0,1,60,9,40;t2,30,1;" + sort + "20;", apples, 0);
        check.due(sort + " with " + apples, x.ahead(3), there + 2 * apples + back);
    }

    private static void pacesByLoad() {
        check.says("Terms 2", "PACE: 2 SECONDS, and 1 more for each 6 of LOAD; of a quick one 1 less; of a stout"
                + " one 1 more for each 12 of LOAD in place of 6.");
        int[] loads = {1, 5, 6, 11, 12, 17, 18, 20};
        int[] backOfPickers = {2, 2, 3, 3, 4, 4, 5, 5};
        int[] backOfStout = {2, 2, 2, 2, 3, 3, 3, 3};
        for (int i = 0; i < loads.length; i++) {
            pace('p', loads[i], 2, backOfPickers[i]);
            pace('q', loads[i], 1, backOfPickers[i] - 1);
            pace('s', loads[i], 2, backOfStout[i]);
        }
    }

    /** Entry and tree beside one another; the only hens, of 9, in each cell in turn; ears of 9. */
    private static void hensAround(int entry, int tree) {
        int house = entry == 12 ? 13 : 12;
        for (int cell = 0; cell <= 23; cell++) {
            OrchardWall x = one("o" + house + "," + entry + ",9,9,40;h" + cell + ",9;t" + tree + ",9,1;p9;", 1, 0);
            int farOfTree = Math.abs(cell % 6 - tree % 6) + Math.abs(cell / 6 - tree / 6);
            int farOfEntry = Math.abs(cell % 6 - entry % 6) + Math.abs(cell / 6 - entry / 6);
            int door = farOfTree <= 1 ? 2 : farOfEntry <= 1 ? 6 : NONE;
            check.due("hens in " + cell + ", " + entry + " to " + tree, x.ahead(2), door);
        }
    }

    private static void hensAreHeardInTheCellAndBesideIt() {
        check.says("Terms 2", "Each time that one comes to a CELL NOISE is more by LOUD of all hens in it, or in a"
                + " CELL beside it.");
        hensAround(7, 8);
        hensAround(1, 0);
        hensAround(4, 5);
        hensAround(19, 18);
        hensAround(22, 23);
        hensAround(11, 17);
        hensAround(6, 0);
        // Across a corner, and around the end of a line, is not beside.
        check.due("corner", one("o12,7,9,9,40;h15,9;t8,9,1;p9;", 1, 0).ahead(2), NONE);
        check.due("around", one("o12,4,9,9,40;h6,9;t5,9,1;p9;", 1, 0).ahead(2), NONE);
    }

    private static void allHensAreHeard() {
        check.says("Terms 2", "NOISE is more by LOUD of all hens");
        String hens = "h2,9;h2,9;h8,9;";
        check.due("27", one("o0,1,27,9,40;" + hens + "t2,9,1;p9;", 1, 0).ahead(2), 2);
        check.due("not 28 by hens alone", one("o0,1,28,9,40;" + hens + "t2,9,1;p9;", 1, 0).ahead(2), 4);
        check.due("1 is heard", one("o0,1,1,9,40;h2,1;t2,9,1;p9;", 1, 0).ahead(2), 2);
        // Each time that one comes: two raiders, 9 for each.
        check.due("two come", two("o0,1,18,9,40;h2,9;t2,9,1;p9;p9;", 1, 0, 1, 0).ahead(2), 2);
        check.due("not 19", two("o0,1,19,9,40;h2,9;t2,9,1;p9;p9;", 1, 0, 1, 0).ahead(2), 4);
    }

    private static void theDoorGoesAtEars() {
        check.says("Terms 2", "Behind each SECOND, in this order: if NOISE is EARS or more, and the door did not GO"
                + " yet, it GOES;");
        for (int ears = 1; ears <= 20; ears++) {
            OrchardWall x = one("o0,1," + ears + ",9,40;t2,30,1;p20;", 20, 0);
            check.due("carried, ears " + ears, x.ahead(2), 2 + 2 * ears);
        }
        check.due("20 is not 21", one("o0,1,21,9,40;t2,30,1;p20;", 20, 0).ahead(2), NONE);
        // 27 by hens, 2 by each apple: 61 by the 17th, 59 by the 16th.
        String hens = "h2,9;h2,9;h8,9;";
        check.due("ears 60", one("o0,1,60,9,40;" + hens + "t2,30,1;p20;", 20, 1).ahead(2), 2 + 2 * 17);
        check.due("ears 59", one("o0,1,59,9,40;" + hens + "t2,30,1;p20;", 20, 1).ahead(2), 2 + 2 * 16);
        check.due("in the first second", one("o0,1,9,9,40;h2,9;t2,9,1;q9;", 1, 0).ahead(2), 1);
    }

    private static void theDoorGoesOnce() {
        check.says("Terms 2", "and the door did not GO yet,");
        // In 4; noise in 6, 8, 10 is no other door: back in 13, and the dog in 4 + 20.
        OrchardWall x = one("o0,1,2,9,40;t2,30,1;p20;", 20, 1);
        check.due("the door", x.ahead(2), 4);
        check.due("back", x.ahead(3), 15);
        OrchardWall y = one("o0,1,2,9,4;t2,30,1;p20;", 20, 1);
        check.due("caught", y.ahead(1), 1);
        check.due("when", y.ahead(3), 9);
    }

    private static void delaysToTheSecond() {
        check.says("Terms 2", "if it went DELAY SECONDS ago (0: now; with a watch there 0 in place of DELAY; with a"
                + " sister there, and no watch, 2 at most), all who GO, or PICK, come BACK from the next SECOND on,");
        for (int delay = 0; delay <= 9; delay++) {
            calledBack(delay, "", delay);
            calledBack(delay, "w1;", 0);
            calledBack(delay, "k1;", Math.min(delay, 2));
            calledBack(delay, "w1;k1;", 0);
            calledBack(delay, "k1;k1;w1;", 0);
            calledBack(delay, "p1;", delay);
        }
    }

    /** He throws in 4, 6, ..; the door goes in 4; behind so many seconds he comes back. */
    private static void calledBack(int delay, String others, int then) {
        OrchardWall x = one("o0,1,2," + delay + ",40;t2,30,1;p20;" + others, 20, 1);
        String name = "delay " + delay + " with " + others;
        check.due(name + ", the door", x.ahead(2), 4);
        check.due(name + ", got", x.ahead(0), 1 + then / 2);
        check.due(name + ", out", x.ahead(3), 4 + then + 2);
    }

    private static void calledBackWithNoSeconds() {
        check.says("Terms 2", "come BACK from the next SECOND on, with 0 SECONDS,");
        // The quick one throws in 3. The other is at 2 since 2, and has one second when he is called.
        OrchardWall x = two("o0,1,2,0,40;t2,9,1;t4,9,1;q9;p9;", 9, 1, 9, 0);
        check.due("the door", x.ahead(2), 3);
        check.due("the quick one is out", x.raiderAhead(0, 0), 4);
        check.due("the other is out", x.raiderAhead(1, 0), 5);
        // Who picks, too: since 2 at the tree, one second of picking by 3.
        OrchardWall y = two("o0,1,2,0,40;t8,9,1;t2,9,1;q9;p9;", 9, 1, 9, 0);
        check.due("the door", y.ahead(2), 4);
        check.due("the other has had one", y.raiderAhead(1, 1), 1);
        OrchardWall z = two("o0,1,2,0,40;t2,9,1;t7,9,1;q9;p9;", 9, 1, 9, 0);
        check.due("the door", z.ahead(2), 3);
        check.due("the other has had none", z.raiderAhead(1, 1), 0);
        check.due("the other is out", z.raiderAhead(1, 0), 5);
    }

    private static void whoComesBackGoesOn() {
        check.says("Terms 2", "all who GO, or PICK, come BACK");
        // 3, 4, 5: the quick one's 2, the other's 1, the quick one's 2; the other has one second of his way back.
        OrchardWall x = two("o0,1,5,0,40;t2,9,1;t7,9,1;q9;p9;", 9, 1, 1, 0);
        check.due("the door", x.ahead(2), 5);
        check.due("the other is out", x.raiderAhead(1, 0), 6);
        check.due("with his apple", x.raiderAhead(1, 1), 1);
    }

    private static void whoIsAtEntryIsOut() {
        check.says("Terms 2", "but who is at ENTRY is OUT;");
        OrchardWall x = two("o0,1,9,0,40;h2,9;t2,9,1;q9;p9;", 9, 0, 9, 0);
        check.due("the door", x.ahead(2), 1);
        check.due("who is at entry", x.raiderAhead(1, 0), 1);
        check.due("has nothing", x.raiderAhead(1, 1), 0);
        check.due("who is not", x.raiderAhead(0, 0), 2);
        check.due("the last second", x.ahead(3), 2);
        // With a delay of 1 he has come to 2, and has the way back.
        OrchardWall y = two("o0,1,9,1,40;h2,9;t2,9,1;q9;p9;", 9, 0, 9, 0);
        check.due("who was at entry", y.raiderAhead(1, 0), 4);
    }

    private static void theDogIsThereToTheSecond() {
        check.says("Terms 2", "if it went as many SECONDS ago as DOG and FAR from HOUSE to ENTRY are together,");
        // The door in 4; out in 6.
        check.due("1: caught", one("o0,1,1,9,0;t2,9,1;p9;", 1, 0).ahead(1), 1);
        check.due("1: in 5", one("o0,1,1,9,0;t2,9,1;p9;", 1, 0).ahead(3), 5);
        check.due("1 and 1: out in time", one("o0,1,1,9,1;t2,9,1;p9;", 1, 0).ahead(1), 0);
        check.due("0 and 2: out in time", one("o3,1,1,9,0;t2,9,1;p9;", 1, 0).ahead(1), 0);
        check.due("0 and 2 down: out in time", one("o13,1,1,9,0;t2,9,1;p9;", 1, 0).ahead(1), 0);
        // The 20th apple in 16 + 40; the way back 8 times 5: out in 96, the dog in 56 + 8 + DOG.
        String behind = ";t23,30,1;p20;";
        check.due("32 and 8: out in time", one("o23,0,20,9,32" + behind, 20, 0).ahead(1), 0);
        check.due("31 and 8: caught", one("o23,0,20,9,31" + behind, 20, 0).ahead(1), 1);
        check.due("31 and 8: in 95", one("o23,0,20,9,31" + behind, 20, 0).ahead(3), 95);
        check.due("40 and 8: out in time", one("o23,0,20,9,40" + behind, 20, 0).ahead(3), 96);
        // The 11th apple in 38; called in 47, with 15 apples; the way back 8 times 4: out in 79.
        check.due("33 and 8: out in time", one("o23,0,11,9,33" + behind, 20, 0).ahead(3), 79);
        check.due("33 and 8: not caught", one("o23,0,11,9,33" + behind, 20, 0).ahead(1), 0);
        check.due("32 and 8: in 78", one("o23,0,11,9,32" + behind, 20, 0).ahead(3), 78);
        check.due("32 and 8: caught", one("o23,0,11,9,32" + behind, 20, 0).ahead(1), 1);
    }

    private static void inThisOrder() {
        check.says("Terms 2", "Behind each SECOND, in this order:");
        // The noise of a second moves the door behind the same second, and the call goes behind the door.
        OrchardWall x = two("o0,1,9,0,0;h2,9;t3,9,1;t2,9,1;q9;p9;", 9, 0, 9, 0);
        check.due("the door", x.ahead(2), 1);
        check.due("called in 1, at entry", x.raiderAhead(1, 0), 1);
        check.due("called in 1, out in 2, where the dog is behind it", x.raiderAhead(0, 0), 2);
        check.due("nobody is caught", x.ahead(1), 0);
        // Called in 2, too late for both: the dog is there.
        OrchardWall y = two("o0,1,9,1,0;h2,9;t3,9,1;t2,9,1;q9;p9;", 9, 0, 9, 0);
        check.due("both are caught", y.ahead(1), 3);
        check.due("in 2", y.ahead(3), 2);
    }

    private static void noRaidLastsLonger() {
        check.says("Terms 2", "or it is SECOND 150, all who are not OUT are CAUGHT.");
        // 8 cells at 2, 20 apples at 2, 8 cells at 5 is the most that there is: no raid comes to second 150.
        OrchardWall x = one("o1,0,60,9,40;t23,30,1;p20;", 20, 0);
        check.due("the longest", x.ahead(3), 96);
        check.due("is out", x.ahead(1), 0);
        check.due("with all", x.ahead(0), 20);
    }

    private static void theRaidEnds() {
        check.says("Terms 2", "The RAID ends behind the SECOND by which all are OUT, or CAUGHT.");
        OrchardWall x = two("o0,1,3,9,4;t2,9,1;t5,9,1;p9;p9;", 1, 0, 9, 0);
        // The first is out in 6; the second has his second apple in 12, which makes 3; the dog is there in 17.
        check.due("out", x.raiderAhead(0, 0), 6);
        check.due("the door", x.ahead(2), 12);
        check.due("caught", x.ahead(1), 2);
        check.due("the last second", x.ahead(3), 17);
        check.due("all out", two("o0,1,60,9,40;t2,9,1;t5,9,1;p9;p9;", 1, 0, 1, 0).ahead(3), 18);
        // The noise of the very second by which the last is out moves the door yet.
        OrchardWall last = one("o0,1,10,0,0;h1,9;t3,9,1;p9;", 1, 0);
        check.due("9 in 2, 10 in 6", last.ahead(2), 6);
        OrchardWall end = one("o0,1,11,0,0;h7,9;t2,9,1;p9;", 1, 0);
        check.due("10 by the end is not 11", end.ahead(2), NONE);
        check.due("10 by the end is 10", one("o0,1,10,0,0;h7,9;t2,9,1;p9;", 1, 0).ahead(2), 6);
    }

    private static void whatIsLost() {
        check.says("Terms 2", "What who is CAUGHT has as LOAD is lost (what he threw is not).");
        OrchardWall x = one("o0,1,6,9,0;t2,9,7;p9;", 9, 0);
        check.due("carried", x.ahead(0), 0);
        check.due("carried by him", x.raiderAhead(0, 1), 0);
        check.due("caught", x.raid() + x.raider(0, 4), 1);
        check.due("the tree has fewer all the same", x.tree(0, 1), 3);
        OrchardWall y = one("o0,1,6,9,0;t2,9,7;p9;", 9, 1);
        check.due("thrown", y.ahead(0), 21);
        check.due("thrown by him", y.raiderAhead(0, 1), 3);
        check.due("caught, too", y.ahead(1), 1);
    }

    private static void whatIsGot() {
        check.says("Terms 2", "GOT: WORTH of all apples thrown, or brought OUT.");
        check.due("worth 0", one("o0,1,60,9,40;t2,30,0;p20;", 20, 0).ahead(0), 0);
        check.due("worth 9", one("o0,1,60,9,40;t2,30,9;p20;", 20, 0).ahead(0), 180);
        check.due("two trees", two("o0,1,60,9,40;t2,30,9;t3,30,1;p20;p20;", 20, 0, 20, 1).ahead(0), 200);
        OrchardWall x = Check.told("o0,1,60,9,40;t2,30,9;p20;p20;p20;p20;");
        for (int raider = 0; raider < 4; raider++) {
            x.plan(raider, 0, 20, 0);
        }
        check.due("30 of 80", x.raid(), 270);
        x.undo();
        x.grow(0, 30);
        check.due("60 of 80", x.raid(), 540);
    }
}
