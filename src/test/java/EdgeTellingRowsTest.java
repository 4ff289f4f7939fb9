import java.util.Arrays;

/** Promises 23 to 27: rows that tell of days, of shares, of what is missing; and bare trees. Bounds and refusals. */
public final class EdgeTellingRowsTest {
    private static final int BAD = OrchardWall.BAD, STATE = OrchardWall.STATE, NONE = OrchardWall.NONE;
    private static final int NULL = -1000011, PLACE = -1000012;
    private static final int LEAST = Integer.MIN_VALUE, GREATEST = Integer.MAX_VALUE;
    private static final Check check = new Check();

    public static void main(String[] args) {
        daysHaveBounds();
        daysAreSixItems();
        daysAreRefused();
        itIsAllOneWherePrattSits();
        theLeastOfSeveralSets();
        valuesCanBeBelowZero();
        greatValuesDoNotWrapAround();
        oddsOfDays();
        daysValueIsRefused();
        sharesAreTogetherWhatIsGot();
        sharesDoNotWrapAround();
        noSetGetsMore();
        sharesAreOfAsManyAsRaiders();
        sharesAreRefused();
        bareAtOnce();
        bareBehindForty();
        bareIsRefused();
        whoAllHavePlans();
        whoOfNone();
        whoIsOfAsManyAsTrees();
        whoIsRefused();
        check.end();
    }

    private static OrchardWall withDays(int... gains) {
        OrchardWall x = new OrchardWall();
        Check.fill(x, 0, gains);
        return x;
    }

    private static void value(int set, long above, long below, int l, int... gains) {
        OrchardWall x = withDays(gains);
        check.due("set", x.days(0, 0, l), set);
        check.due("above", x.daysValue(0, 0, l, -1, 0), above);
        check.due("below", x.daysValue(0, 0, l, -1, 1), below);
    }

    private static void daysHaveBounds() {
        check.says("Terms 3", "DAYS: a row tells for each of 6 DAYS what one GETS on it (0 to 20), if Pratt does"
                + " not sit in there; if he does, L is lost (1 to 20).");
        value(63, -1, 6, 1, 0, 0, 0, 0, 0, 0);
        value(63, -10, 3, 20, 0, 0, 0, 0, 0, 0);
        value(63, 33, 2, 1, 20, 20, 20, 20, 20, 20);
        value(63, 40, 3, 20, 20, 20, 20, 20, 20, 20);
        for (int day = 0; day < 6; day++) {
            OrchardWall x = withDays(0, 0, 0, 0, 0, 0);
            x.set(0, day, 20);
            check.holds("20 on day " + day, x.days(0, 0, 1) > 0);
            x.set(0, day, 21);
            check.due("21 on day " + day, x.days(0, 0, 1), BAD);
            x.set(0, day, -1);
            check.due("-1 on day " + day, x.days(0, 0, 1), BAD);
            x.set(0, day, LEAST);
            check.due("the least on day " + day, x.days(0, 0, 1), BAD);
            x.set(0, day, GREATEST);
            check.due("the greatest on day " + day, x.days(0, 0, 1), BAD);
        }
    }

    private static void daysAreSixItems() {
        check.says("Promise 23", "DAYS, 6 ITEMS of a ROW from i on: the set.");
        OrchardWall x = new OrchardWall();
        for (int lane = 0; lane <= 2; lane++) {
            Check.fillLane(x, lane, lane, 99, -1, 20, 20, 0, 0, 0, 0, 21);
            check.due("from 2 on, lane " + lane, x.days(lane, 2, 1), 3);
            check.due("one more", x.days(lane, 3, 1), BAD);
            check.due("one less", x.days(lane, 1, 1), BAD);
        }
        Check.fill(x, 3, 20, 20, 0, 0, 0, 0);
        check.due("just six", x.days(3, 0, 1), 3);
        Check.fill(x, 3, 20, 20, 0, 0, 0);
        check.due("five", x.days(3, 0, 1), PLACE);
        x.row(4, 0, 40);
        check.due("the last six of 40", x.days(4, 34, 1), 63);
        check.due("one behind", x.days(4, 35, 1), PLACE);
    }

    private static void daysAreRefused() {
        check.says("Promise 23", "BAD: ROW, L; NULL; PLACE; then BAD: an ITEM not 0 to 20.");
        OrchardWall x = withDays(0, 0, 0, 0, 0, 0, 21);
        check.due("row -1", x.days(-1, 0, 1), BAD);
        check.due("row 8", x.days(8, 0, 1), BAD);
        check.due("l 0", x.days(0, 0, 0), BAD);
        check.due("l 1", x.days(0, 0, 1), 63);
        check.due("l 20", x.days(0, 0, 20), 63);
        check.due("l 21", x.days(0, 0, 21), BAD);
        check.due("l least", x.days(0, 0, LEAST), BAD);
        check.due("l greatest", x.days(0, 0, GREATEST), BAD);
        check.due("missing, l 0", x.days(7, 0, 0), BAD);
        check.due("missing", x.days(7, 0, 1), NULL);
        check.due("missing, no place", x.days(7, -1, 1), NULL);
        check.due("place -1", x.days(0, -1, 1), PLACE);
        check.due("place 2 of 7, and an item of 21", x.days(0, 2, 1), PLACE);
        check.due("place least", x.days(0, LEAST, 1), PLACE);
        check.due("place greatest", x.days(0, GREATEST, 1), PLACE);
        check.due("place greatest less 5", x.days(0, GREATEST - 5, 1), PLACE);
        check.due("an item of 21", x.days(0, 1, 1), BAD);
        x.row(1, 0, 6);
        x.set(1, 0, 200);
        check.due("a byte of 200 is below 0", x.days(1, 0, 1), BAD);
        x.row(1, 1, 6);
        x.set(1, 0, 65537);
        check.due("a short of 65537 is 1", x.days(1, 0, 1), 63);
    }

    private static void itIsAllOneWherePrattSits() {
        check.says("Terms 3", "Of all sets of DAYS (not empty): one goes on each of these by odds so that it is all"
                + " one on which of them Pratt sits in: VALUE, what is GOT in the mean then; the greatest VALUE of"
                + " all sets: a fraction;");
        // 20 by 2/23 and 1 by 21/23: if he sits in on the first, 21/23 less 2/23; on the last, 40/23 less 21/23.
        value(33, 19, 23, 1, 20, 0, 0, 0, 0, 1);
        value(63, -1, 106, 1, 20, 0, 0, 0, 0, 0);
        value(3, 19, 2, 1, 20, 20, 0, 0, 0, 0);
        value(48, 19, 2, 1, 0, 0, 0, 0, 20, 20);
        value(63, -20, 11, 20, 0, 0, 0, 0, 0, 20);
    }

    private static void theLeastOfSeveralSets() {
        check.says("Terms 3", "that set (bits), of several the least;");
        // Of stakes 4 and 4 the value is 2 less 1; a day of stake 2 makes it neither more nor less.
        value(3, 1, 1, 1, 3, 3, 1, 0, 0, 0);
        value(6, 1, 1, 1, 1, 3, 3, 0, 0, 0);
        value(10, 1, 1, 1, 1, 3, 1, 3, 0, 0);
        value(48, 1, 1, 1, 1, 1, 1, 1, 3, 3);
        value(3, 0, 1, 1, 1, 1, 0, 0, 0, 0);
    }

    private static void valuesCanBeBelowZero() {
        check.says("Promise 24", "DAYS: VALUE (day = -1; can be below 0),");
        value(63, -1, 106, 1, 20, 0, 0, 0, 0, 0);
        value(63, -10, 3, 20, 0, 0, 0, 0, 0, 0);
        OrchardWall x = withDays(1, 1, 0, 0, 0, 0);
        check.due("0, above", x.daysValue(0, 0, 1, -1, 0), 0);
        check.due("0, below", x.daysValue(0, 0, 1, -1, 1), 1);
    }

    private static void greatValuesDoNotWrapAround() {
        check.says("Terms 3", "the greatest VALUE of all sets: a fraction;");
        value(63, 2596826544L, 261263267L, 18, 19, 17, 20, 11, 13, 15);
        value(63, 2488488883L, 237805951L, 17, 17, 20, 12, 14, 16, 18);
        value(31, 57692780L, 7493417L, 20, 20, 19, 17, 11, 9, 3);
    }

    private static void oddsOfDays() {
        check.says("Promise 24", "the odds of a DAY (0 to 5; 0 by 1: not in the set): above (what = 0), below (1).");
        check.says("Terms 3", "the odds of a DAY by it: a fraction.");
        OrchardWall x = withDays(20, 19, 17, 11, 9, 3);
        long[] above = {1297257, 1330520, 1402440, 1673880, 1789320, 0};
        long[] below = {7493417, 7493417, 7493417, 7493417, 7493417, 1};
        for (int day = 0; day <= 5; day++) {
            check.due("above, day " + day, x.daysValue(0, 0, 20, day, 0), above[day]);
            check.due("below, day " + day, x.daysValue(0, 0, 20, day, 1), below[day]);
        }
        OrchardWall y = withDays(3, 0, 3, 0, 0, 0);
        check.due("a half, above", y.daysValue(0, 0, 1, 2, 0), 1);
        check.due("a half, below", y.daysValue(0, 0, 1, 2, 1), 2);
        check.due("not in the set, above", y.daysValue(0, 0, 1, 5, 0), 0);
        check.due("not in the set, below", y.daysValue(0, 0, 1, 5, 1), 1);
    }

    private static void daysValueIsRefused() {
        check.says("Promise 24", "Refused as days(); BAD: day, what, too, ahead of NULL.");
        OrchardWall x = withDays(0, 0, 0, 0, 0, 0, 21);
        check.due("day -1", x.daysValue(0, 0, 1, -1, 0), -1);
        check.due("day -2", x.daysValue(0, 0, 1, -2, 0), BAD);
        check.due("day 5", x.daysValue(0, 0, 1, 5, 0), 1);
        check.due("day 6", x.daysValue(0, 0, 1, 6, 0), BAD);
        check.due("day least", x.daysValue(0, 0, 1, LEAST, 0), BAD);
        check.due("what -1", x.daysValue(0, 0, 1, 0, -1), BAD);
        check.due("what 2", x.daysValue(0, 0, 1, 0, 2), BAD);
        check.due("row -1", x.daysValue(-1, 0, 1, 0, 0), BAD);
        check.due("row 8", x.daysValue(8, 0, 1, 0, 0), BAD);
        check.due("l 0", x.daysValue(0, 0, 0, 0, 0), BAD);
        check.due("l 21", x.daysValue(0, 0, 21, 0, 0), BAD);
        check.due("missing", x.daysValue(7, 0, 1, 0, 0), NULL);
        check.due("missing, day 6", x.daysValue(7, 0, 1, 6, 0), BAD);
        check.due("missing, what 2", x.daysValue(7, 0, 1, 0, 2), BAD);
        check.due("missing, l 21", x.daysValue(7, 0, 21, 0, 0), BAD);
        check.due("place -1", x.daysValue(0, -1, 1, 0, 0), PLACE);
        check.due("place 2 of 7", x.daysValue(0, 2, 1, 0, 0), PLACE);
        check.due("place 2 of 7, day 6", x.daysValue(0, 2, 1, 6, 0), BAD);
        check.due("an item of 21", x.daysValue(0, 1, 1, 0, 0), BAD);
    }

    /** Raider 0 gets 5, raider 1 gets 6, the watch nothing. */
    private static OrchardWall five() {
        OrchardWall x = Check.told("o0,1,60,0,40;t2,30,1;t7,30,2;p5;p3;w1;");
        x.plan(0, 0, 5, 0);
        x.plan(1, 1, 3, 0);
        return x;
    }

    private static void shares(OrchardWall x, int due, int... items) {
        Check.fill(x, 0, items);
        check.due("shares of " + Arrays.toString(items), x.shares(0, 0), due);
    }

    private static void sharesAreTogetherWhatIsGot() {
        check.says("Terms 3", "SHARES: a row tells what each RAIDER is to have: it HOLDS if all together have what"
                + " a RAID by PLANS GETS,");
        check.says("Terms 3", "NONE: they have not together what it GETS.");
        shares(five(), 0, 5, 6, 0);
        shares(five(), NONE, 5, 6, 1);
        shares(five(), NONE, 5, 6, -1);
        shares(five(), NONE, 0, 0, 0);
        OrchardWall nobody = Check.told("o0,1,60,0,40;t2,30,1;p5;");
        shares(nobody, 0, 0);
        shares(nobody, NONE, 1);
        shares(nobody, NONE, -1);
    }

    private static void sharesDoNotWrapAround() {
        check.says("Terms 3", "all together have what a RAID by PLANS GETS,");
        // 2 to the 32nd and 11 together.
        shares(five(), NONE, GREATEST, GREATEST, 13);
        shares(five(), NONE, LEAST, LEAST, 11);
        // Together 11, though two of them have more than an int holds.
        OrchardWall x = Check.told("o0,1,60,0,40;t2,30,1;t7,30,2;p5;p3;w1;w1;");
        x.plan(0, 0, 5, 0);
        x.plan(1, 1, 3, 0);
        shares(x, 4, GREATEST, GREATEST, LEAST, LEAST + 13);
        shares(x, 1, LEAST, GREATEST, 6, 6);
    }

    private static void noSetGetsMore() {
        check.says("Terms 3", "and no set of RAIDERS would GET more by a RAID by their PLANS, nobody else being"
                + " there, than they have: the least set (bits) that would; 0: it HOLDS;");
        shares(five(), 1, 4, 7, 0);
        shares(five(), 2, 6, 5, 0);
        shares(five(), 1, 4, 5, 2);
        shares(five(), 4, 6, 6, -1);
        // He alone is caught; with the watch he has two: neither alone, but both would get more.
        OrchardWall x = Check.told("o0,1,2,9,3;t2,30,1;p20;w1;p20;");
        x.plan(0, 0, 20, 0);
        check.due("with the watch", x.ahead(0), 2);
        shares(x, 0, 2, 0, 0);
        shares(x, 0, 0, 2, 0);
        shares(x, 3, 1, 0, 1);
        shares(x, 3, 0, 0, 2);
        shares(x, 4, 1, 2, -1);
    }

    private static void sharesAreOfAsManyAsRaiders() {
        check.says("Promise 25", "SHARES, as many ITEMS as RAIDERS, of a ROW from i on.");
        OrchardWall x = five();
        Check.fill(x, 0, 99, 5, 6, 0, 99);
        check.due("from 1 on", x.shares(0, 1), 0);
        Check.fill(x, 0, 99, 5, 6, 0);
        check.due("to the end", x.shares(0, 1), 0);
        check.due("beyond the end", x.shares(0, 2), PLACE);
        Check.fillLane(x, 1, 0, 5, 6, 0);
        check.due("bytes", x.shares(1, 0), 0);
        Check.fillLane(x, 1, 1, 5, 65536 + 6, 0);
        check.due("shorts", x.shares(1, 0), 0);
        OrchardWall nobody = Check.told("o0,1,60,0,40;t2,30,1;");
        nobody.row(0, 0, 0);
        check.due("no raiders, no items", nobody.shares(0, 0), 0);
        check.due("no raiders, place 1 of 0", nobody.shares(0, 1), PLACE);
        nobody.row(0, 0, 40);
        check.due("no raiders, place 40 of 40", nobody.shares(0, 40), 0);
        check.due("no raiders, place 41 of 40", nobody.shares(0, 41), PLACE);
    }

    private static void sharesAreRefused() {
        check.says("Promise 25", "BAD: ROW; STATE: no ORCHARD (ahead of BAD); NULL; PLACE.");
        OrchardWall x = new OrchardWall();
        check.due("no orchard", x.shares(0, 0), STATE);
        check.due("no orchard, row 8", x.shares(8, 0), STATE);
        Check.tell(x, "o0,1,60,0,40;p1;p1;");
        check.due("row -1", x.shares(-1, 0), BAD);
        check.due("row 8", x.shares(8, 0), BAD);
        check.due("missing", x.shares(0, 0), NULL);
        check.due("missing, place -1", x.shares(0, -1), NULL);
        x.row(0, 0, 3);
        check.due("place -1", x.shares(0, -1), PLACE);
        check.due("place 1 of 3", x.shares(0, 1), 0);
        check.due("place 2 of 3", x.shares(0, 2), PLACE);
        check.due("place least", x.shares(0, LEAST), PLACE);
        check.due("place greatest", x.shares(0, GREATEST), PLACE);
        x.row(0, 0, 1);
        check.due("one item for two", x.shares(0, 0), PLACE);
    }

    private static void bare(OrchardWall x, int many, int much) {
        check.due("how many", x.bare(0), many);
        check.due("how much", x.bare(1), much);
    }

    private static void bareAtOnce() {
        check.says("Terms 3", "BARE: the fewest RAIDS by PLANS as they are, one behind another (0 to 40), behind"
                + " which the next one GETS nothing; how much these GET together;");
        check.says("Promise 26", "BARE: how many (what = 0), how much (1);");
        bare(Check.told("o0,1,60,9,40;t2,30,9;p9;"), 0, 0);
        OrchardWall empty = Check.told("o0,1,60,9,40;t2,0,9;p9;");
        empty.plan(0, 0, 9, 0);
        bare(empty, 0, 0);
        OrchardWall worthless = Check.told("o0,1,60,9,40;t2,30,0;p9;");
        worthless.plan(0, 0, 9, 0);
        bare(worthless, 0, 0);
        OrchardWall x = Check.told("o0,1,60,9,40;t2,30,9;p20;");
        x.plan(0, 0, 20, 0);
        bare(x, 2, 270);
        // Caught with 4 of 5; 1 is left for the next, which is not foretold, as the first GETS nothing.
        OrchardWall caught = Check.told("o0,1,2,9,3;t2,5,7;p20;");
        caught.plan(0, 0, 20, 0);
        bare(caught, 0, 0);
        caught.raid();
        bare(caught, 1, 7);
    }

    private static void bareBehindForty() {
        check.says("Promise 26", "NONE.");
        check.says("Terms 3", "how much these GET together; NONE.");
        OrchardWall x = Check.told("o0,1,60,9,40;t2,30,9;p1;");
        x.plan(0, 0, 1, 0);
        bare(x, 30, 270);
        x.grow(0, 9);
        bare(x, 39, 351);
        x.grow(0, 1);
        bare(x, 40, 360);
        x.grow(0, 1);
        bare(x, NONE, NONE);
        x.grow(0, 19);
        bare(x, NONE, NONE);
        check.due("the apples stay", x.tree(0, 1), 60);
        x.plan(0, 0, 2, 1);
        bare(x, 30, 540);
    }

    private static void bareIsRefused() {
        check.says("Promise 26", "BAD; STATE: no ORCHARD (ahead of BAD).");
        OrchardWall x = new OrchardWall();
        check.due("no orchard", x.bare(0), STATE);
        check.due("no orchard, what 2", x.bare(2), STATE);
        Check.tell(x, "o0,1,60,9,40;");
        check.due("what 1", x.bare(1), 0);
        check.due("what 2", x.bare(2), BAD);
        check.due("what -1", x.bare(-1), BAD);
        check.due("what least", x.bare(LEAST), BAD);
    }

    private static void who(OrchardWall x, int many, int least, int... items) {
        Check.fill(x, 0, items);
        check.due("how many by " + Arrays.toString(items), x.who(0, 0, 0), many);
        check.due("the least by " + Arrays.toString(items), x.who(0, 0, 1), least);
    }

    private static void whoAllHavePlans() {
        check.says("Terms 3", "WHO: a row tells how many apples of each TREE are missing by one RAID: sets of"
                + " RAIDERS (bits) who all have PLANS, not empty, by whose RAID, nobody else being there, just so"
                + " many are: how many; the least;");
        OrchardWall x = Check.told("o0,1,60,0,40;t2,30,1;t7,30,2;p5;p5;p3;w1;");
        x.plan(0, 0, 5, 0);
        x.plan(1, 0, 5, 1);
        x.plan(2, 1, 3, 0);
        who(x, 2, 1, 5, 0);
        who(x, 2, 5, 5, 3);
        who(x, 1, 3, 10, 0);
        who(x, 1, 7, 10, 3);
        who(x, 1, 4, 0, 3);
        x.plan(0, -1, 0, 0);
        who(x, 1, 2, 5, 0);
        who(x, 0, NONE, 10, 0);
        // With the watch he would be called back at once, but she has no plan.
        OrchardWall watched = Check.told("o0,1,2,9,40;t2,30,1;p20;w1;");
        watched.plan(0, 0, 20, 1);
        who(watched, 1, 1, 5);
        who(watched, 0, NONE, 1);
        // By whom nothing is missing, for their trees are empty.
        OrchardWall empty = Check.told("o0,1,60,0,40;t2,0,1;p5;p5;p5;p5;");
        for (int raider = 0; raider < 4; raider++) {
            empty.plan(raider, 0, 20, 0);
        }
        who(empty, 15, 1, 0);
    }

    private static void whoOfNone() {
        check.says("Terms 3", "how many; the least; NONE.");
        check.says("Promise 27", "how many (what = 0), the least (1); NONE.");
        OrchardWall x = Check.told("o0,1,60,0,40;t2,30,1;t7,30,2;p5;w1;");
        who(x, 0, NONE, 0, 0);
        x.plan(0, 0, 5, 0);
        who(x, 0, NONE, 0, 0);
        who(x, 0, NONE, 4, 0);
        who(x, 0, NONE, 6, 0);
        who(x, 0, NONE, 5, 1);
        who(x, 0, NONE, 5, -1);
        who(x, 0, NONE, -5, 0);
        who(x, 0, NONE, LEAST, GREATEST);
        who(x, 1, 1, 5, 0);
        who(Check.told("o0,1,60,0,40;p5;"), 0, NONE);
        who(Check.told("o0,1,60,0,40;t2,30,1;"), 0, NONE, 0);
    }

    private static void whoIsOfAsManyAsTrees() {
        check.says("Promise 27", "WHO, as many ITEMS as TREES, of a ROW from i on:");
        OrchardWall x = Check.told("o0,1,60,0,40;t2,30,1;t7,30,2;p5;");
        x.plan(0, 1, 5, 0);
        Check.fill(x, 0, 99, 0, 5, 99);
        check.due("from 1 on", x.who(0, 1, 0), 1);
        Check.fillLane(x, 0, 0, 99, 0, 5);
        check.due("to the end", x.who(0, 1, 1), 1);
        check.due("beyond the end", x.who(0, 2, 1), PLACE);
        OrchardWall six = Check.told("o0,1,60,0,40;t2,9,1;t3,9,1;t4,9,1;t5,9,1;t6,9,1;t7,9,1;p5;");
        six.plan(0, 5, 2, 0);
        who(six, 1, 1, 0, 0, 0, 0, 0, 2);
        check.due("five of six", six.who(0, 1, 0), PLACE);
        OrchardWall none = Check.told("o0,1,60,0,40;p5;");
        none.row(0, 0, 0);
        check.due("no trees, no items", none.who(0, 0, 0), 0);
        check.due("no trees, place 1 of 0", none.who(0, 1, 0), PLACE);
    }

    private static void whoIsRefused() {
        check.says("Promise 27", "BAD: ROW, what; STATE: no ORCHARD (ahead of BAD); NULL; PLACE.");
        OrchardWall x = new OrchardWall();
        check.due("no orchard", x.who(0, 0, 0), STATE);
        check.due("no orchard, row 8", x.who(8, 0, 0), STATE);
        check.due("no orchard, what 2", x.who(0, 0, 2), STATE);
        Check.tell(x, "o0,1,60,0,40;t2,1,1;t3,1,1;p1;");
        check.due("row -1", x.who(-1, 0, 0), BAD);
        check.due("row 8", x.who(8, 0, 0), BAD);
        check.due("missing, what 2", x.who(0, 0, 2), BAD);
        check.due("missing, what -1", x.who(0, 0, -1), BAD);
        check.due("missing", x.who(0, 0, 0), NULL);
        check.due("missing, place -1", x.who(0, -1, 0), NULL);
        x.row(0, 0, 3);
        check.due("place -1", x.who(0, -1, 0), PLACE);
        check.due("place 1 of 3", x.who(0, 1, 0), 0);
        check.due("place 2 of 3", x.who(0, 2, 0), PLACE);
        check.due("place 2 of 3, what 2", x.who(0, 2, 2), BAD);
        check.due("place least", x.who(0, LEAST, 0), PLACE);
        check.due("place greatest", x.who(0, GREATEST, 0), PLACE);
    }
}
