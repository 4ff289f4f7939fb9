/** The first part of "Terms": from where numbers go, fractions, refusals, their order, and that they change nothing. */
public final class EdgeTermsTest {
    private static final int BAD = OrchardWall.BAD, STATE = OrchardWall.STATE, FULL = OrchardWall.FULL;
    private static final int NULL = -1000011, PLACE = -1000012, KIND = -1000013, SIZE = -1000014, STORE = -1000015;
    private static final int LEAST = Integer.MIN_VALUE, GREATEST = Integer.MAX_VALUE;
    private static final Check check = new Check();

    public static void main(String[] args) {
        numbersGoFromZeroOn();
        divisionsAreCut();
        fractionsAreInLowestTerms();
        setsAreBits();
        theFirstRefusalThatFits();
        findingsHaveNumbers();
        rowsThatAreRefusedChangeNothing();
        actsThatAreRefusedChangeNothing();
        asksThatAreRefusedChangeNothing();
        rowsThatTellAreRefusedAndChangeNothing();
        withoutAnOrchardNothingChanges();
        whatIsFullStaysFull();
        check.end();
    }

    private static void numbersGoFromZeroOn() {
        check.says("Terms", "Numbers go from 0 on.");
        OrchardWall x = Check.told("o0,1,60,0,40;t2,9,1;t3,9,1;p9;w9;");
        check.due("row 0", x.row(0, 0, 1), 1);
        check.due("place 0", x.set(0, 0, 7), 7);
        check.due("row -1", x.row(-1, 0, 1), BAD);
        check.due("place -1", x.set(0, -1, 7), PLACE);
        check.due("tree 0", x.tree(0, 0), 2);
        check.due("tree -1", x.tree(-1, 0), BAD);
        check.due("the last tree is 1", x.tree(1, 0), 3);
        check.due("tree 2 of 2", x.tree(2, 0), BAD);
        check.due("raider 0", x.kind(0), 1);
        check.due("raider -1", x.kind(-1), BAD);
        check.due("the last raider is 1", x.kind(1), 4);
        check.due("raider 2 of 2", x.kind(2), BAD);
        check.due("cell 0", x.far(0, 0), 0);
        check.due("cell -1", x.far(-1, 0), BAD);
        check.due("hour 0", x.write(0, 1), 1);
        check.due("hour -1", x.write(-1, 1), BAD);
        check.due("image 0", x.image(0), 1);
        check.due("image -1", x.image(-1), BAD);
        x.ask(0, 0);
        check.due("trace 0", x.trace(0), 11);
        check.due("trace -1", x.trace(-1), OrchardWall.NONE);
    }

    private static void divisionsAreCut() {
        check.says("Terms", "All that is divided is cut towards 0");
        OrchardWall x = Check.told("o0,1,60,0,40;t2,30,1;p20;s20;");
        // 2 seconds there, 2 for each apple; the way back by what each 6, or 12, of the load adds.
        x.plan(0, 0, 5, 0);
        check.due("5 by 6 is 0", x.raiderAhead(0, 0), 2 + 10 + 2);
        x.plan(0, 0, 11, 0);
        check.due("11 by 6 is 1", x.raiderAhead(0, 0), 2 + 22 + 3);
        x.plan(0, -1, 0, 0);
        x.plan(1, 0, 11, 0);
        check.due("11 by 12 is 0", x.raiderAhead(1, 0), 2 + 22 + 2);
    }

    private static void fractionsAreInLowestTerms() {
        check.says("Terms", "but fractions, told as two numbers in lowest terms (0 is 0 by 1).");
        OrchardWall x = new OrchardWall();
        x.write(3, 1);
        x.write(3, 0);
        x.write(3, 1);
        x.write(3, 0);
        check.due("2 by 4, above", x.sleep(3, 0), 1);
        check.due("2 by 4, below", x.sleep(3, 1), 2);
        x.write(5, 1);
        x.write(5, 1);
        check.due("2 by 2, above", x.sleep(5, 0), 1);
        check.due("2 by 2, below", x.sleep(5, 1), 1);
        x.write(6, 0);
        x.write(6, 0);
        check.due("0 by 2, above", x.sleep(6, 0), 0);
        check.due("0 by 2, below", x.sleep(6, 1), 1);
        Check.fill(x, 0, 1, 1, 0, 0, 0, 0);
        check.due("a value of 0, above", x.daysValue(0, 0, 1, -1, 0), 0);
        check.due("a value of 0, below", x.daysValue(0, 0, 1, -1, 1), 1);
        Check.fill(x, 0, 0, 0, 0, 0, 0, 0);
        // 6 days of stakes 4 each: 5 by 6/4, less 4: -2/3; below it is never below 0.
        check.due("a value below 0, above", x.daysValue(0, 0, 4, -1, 0), -2);
        check.due("a value below 0, below", x.daysValue(0, 0, 4, -1, 1), 3);
        check.due("odds, above", x.daysValue(0, 0, 4, 5, 0), 1);
        check.due("odds, below", x.daysValue(0, 0, 4, 5, 1), 6);
    }

    private static void setsAreBits() {
        check.says("Terms", "Sets are bits.");
        OrchardWall x = Check.told("o0,1,1,9,0;t2,9,1;p9;p9;p9;p9;");
        x.plan(0, 0, 9, 0);
        check.due("raider 0", x.ahead(1), 1);
        x.plan(3, 0, 9, 0);
        check.due("raiders 0 and 3", x.ahead(1), 9);
        x.plan(1, 0, 9, 0);
        x.plan(2, 0, 9, 0);
        check.due("all four", x.ahead(1), 15);
        Check.fill(x, 0, 0, 0, 0, 0, 0, 20);
        check.due("day 5 of 6 goes along", x.days(0, 0, 1) >> 5, 1);
    }

    private static void theFirstRefusalThatFits() {
        check.says("Terms", "Refusals are answers, the first of these that fits, but as told: BAD (a number is not"
                + " as told; there is no such thing), STATE (as told), FULL (as told), then FINDINGS,");
        OrchardWall x = new OrchardWall();
        Tellings.rich(x);
        check.due("BAD and STATE: a watch's plan", x.plan(2, 0, 21, 0), BAD);
        check.due("BAD and STATE: a watch's safe", x.safe(2, 2, 0), BAD);
        check.due("BAD and STATE: a watch's best", x.bestAlone(2, 4), BAD);
        check.due("STATE alone: a watch's plan", x.plan(2, 0, 20, 0), STATE);
        check.due("BAD and STATE: image", new OrchardWall().image(2), BAD);
        check.due("BAD and STATE: restore", new OrchardWall().restore(2), BAD);
        check.due("as told, STATE and BAD: ahead", new OrchardWall().ahead(4), STATE);
        check.due("as told, STATE and BAD: shares", new OrchardWall().shares(8, 0), STATE);
        check.due("as told, STATE and BAD: bare", new OrchardWall().bare(2), STATE);
        check.due("as told, STATE and BAD: who", new OrchardWall().who(8, 0, 2), STATE);
        check.due("BAD and SIZE: row", x.row(8, 0, -1), BAD);
        check.due("BAD and NULL: copy", x.copy(4, 0, 8, 0, 1), BAD);
        check.due("BAD and NULL: days", x.days(4, 0, 0), BAD);
        check.due("BAD and NULL: daysValue", x.daysValue(4, 0, 1, 6, 0), BAD);
        check.due("BAD and NULL: who", x.who(4, 0, 2), BAD);
        check.due("as told, PLACE and BAD: days", x.days(0, 2, 1), PLACE);
        check.due("STATE and NULL: shares", new OrchardWall().shares(0, 0), STATE);
        check.due("STATE and NULL: who", new OrchardWall().who(0, 0, 0), STATE);
        bothBadAndFull();
    }

    private static void bothBadAndFull() {
        OrchardWall x = new OrchardWall();
        Tellings.fullTape(x);
        Tellings.fullBook(x);
        check.due("BAD and FULL: feed", x.feed(256), BAD);
        check.due("FULL alone: feed", x.feed(255), FULL);
        check.due("BAD and FULL: write", x.write(24, 0), BAD);
        check.due("FULL alone: write", x.write(23, 0), FULL);
        OrchardWall y = new OrchardWall();
        Tellings.fullTrees(y);
        check.due("BAD and FULL: grow", y.grow(0, 31), BAD);
        check.due("FULL alone: grow", y.grow(0, 30), FULL);
        OrchardWall z = new OrchardWall();
        Tellings.fullRaids(z);
        z.plan(0, -1, 0, 0);
        check.due("STATE and FULL: raid", z.raid(), STATE);
        z.undo();
        check.due("FULL alone: raid", z.raid(), FULL);
    }

    private static void findingsHaveNumbers() {
        check.says("Terms", "of several the first in time: -1000010 less 1 NULL (a ROW that is missing), 2 PLACE"
                + " (no such place of a ROW), 3 KIND (a RAIDER that is not that), 4 SIZE (fewer than none), 5 STORE"
                + " (ROWS of two LANES).");
        OrchardWall x = new OrchardWall();
        Tellings.rich(x);
        check.due("NULL", x.drop(4), -1000010 - 1);
        check.due("PLACE", x.set(0, 7, 1), -1000010 - 2);
        check.due("KIND", x.as(0, 4), -1000010 - 3);
        check.due("SIZE", x.row(0, 0, -1), -1000010 - 4);
        check.due("STORE", x.copy(0, 0, 1, 0, 1), -1000010 - 5);
        check.due("NULL ahead of PLACE: set", x.set(4, -1, 0), NULL);
        check.due("NULL ahead of PLACE: days", x.days(4, -1, 1), NULL);
        check.due("NULL ahead of PLACE: shares", x.shares(4, -1), NULL);
        check.due("NULL ahead of PLACE: who", x.who(4, -1, 0), NULL);
        check.due("NULL ahead of STORE and PLACE: copy", x.copy(0, -1, 4, 0, 1), NULL);
        check.due("STORE ahead of PLACE: copy", x.copy(0, -1, 1, 0, 1), STORE);
    }

    private static void saysThatNothingChanges() {
        check.says("Terms", "What is refused, or found, changes nothing but status().");
    }

    private static void rowsThatAreRefusedChangeNothing() {
        saysThatNothingChanges();
        Twins twins = new Twins(check, Tellings::rich);
        twins.refused("row -1", x -> x.row(-1, 0, 1), BAD);
        twins.refused("row 8", x -> x.row(8, 0, 1), BAD);
        twins.refused("row, lane -1", x -> x.row(0, -1, 1), BAD);
        twins.refused("row, lane 3", x -> x.row(0, 3, 1), BAD);
        twins.refused("row, 41 items", x -> x.row(0, 0, 41), BAD);
        twins.refused("row, -1 items", x -> x.row(0, 1, -1), SIZE);
        twins.refused("row, -1 items of a missing one", x -> x.row(4, 1, -1), SIZE);
        twins.refused("set, row 8", x -> x.set(8, 0, 1), BAD);
        twins.refused("set, missing", x -> x.set(4, 0, 1), NULL);
        twins.refused("set, place -1", x -> x.set(0, -1, 1), PLACE);
        twins.refused("set, place 7", x -> x.set(0, 7, 1), PLACE);
        twins.refused("set, no items", x -> x.set(3, 0, 1), PLACE);
        twins.refused("copy, from row 8", x -> x.copy(8, 0, 0, 0, 1), BAD);
        twins.refused("copy, to row 8", x -> x.copy(0, 0, 8, 0, 1), BAD);
        twins.refused("copy, from a missing one", x -> x.copy(4, 0, 0, 0, 1), NULL);
        twins.refused("copy, to a missing one", x -> x.copy(0, 0, 4, 0, 1), NULL);
        twins.refused("copy, two lanes", x -> x.copy(0, 0, 1, 0, 1), STORE);
        twins.refused("copy, i -1", x -> x.copy(2, -1, 2, 1, 3), PLACE);
        twins.refused("copy, j -1", x -> x.copy(2, 1, 2, -1, 3), PLACE);
        twins.refused("copy, n -1", x -> x.copy(2, 1, 2, 0, -1), PLACE);
        twins.refused("copy, beyond the end of a", x -> x.copy(2, 6, 2, 0, 3), PLACE);
        twins.refused("copy, beyond the end of b", x -> x.copy(2, 0, 2, 6, 3), PLACE);
        twins.refused("copy, to one without items", x -> x.copy(2, 0, 3, 0, 1), PLACE);
        twins.refused("drop -1", x -> x.drop(-1), BAD);
        twins.refused("drop 8", x -> x.drop(8), BAD);
        twins.refused("drop, missing", x -> x.drop(4), NULL);
    }

    private static void actsThatAreRefusedChangeNothing() {
        saysThatNothingChanges();
        Twins twins = new Twins(check, Tellings::rich);
        twins.refused("feed -1", x -> x.feed(-1), BAD);
        twins.refused("feed 256", x -> x.feed(256), BAD);
        twins.refused("plan, raider -1", x -> x.plan(-1, 0, 1, 0), BAD);
        twins.refused("plan, raider 3", x -> x.plan(3, 0, 1, 0), BAD);
        twins.refused("plan, tree -2", x -> x.plan(0, -2, 1, 0), BAD);
        twins.refused("plan, tree 2", x -> x.plan(0, 2, 1, 0), BAD);
        twins.refused("plan, apples 0", x -> x.plan(0, 0, 0, 0), BAD);
        twins.refused("plan, apples 21", x -> x.plan(0, 0, 21, 0), BAD);
        twins.refused("plan, how -1", x -> x.plan(0, 0, 1, -1), BAD);
        twins.refused("plan, how 2", x -> x.plan(0, 0, 1, 2), BAD);
        twins.refused("plan of a watch", x -> x.plan(2, 0, 1, 0), STATE);
        twins.refused("plan of a watch, none", x -> x.plan(2, -1, 1, 0), STATE);
        twins.refused("grow, tree -1", x -> x.grow(-1, 1), BAD);
        twins.refused("grow, tree 2", x -> x.grow(2, 1), BAD);
        twins.refused("grow 0", x -> x.grow(0, 0), BAD);
        twins.refused("grow 31", x -> x.grow(0, 31), BAD);
        twins.refused("write, hour -1", x -> x.write(-1, 1), BAD);
        twins.refused("write, hour 24", x -> x.write(24, 1), BAD);
        twins.refused("write, slept -1", x -> x.write(0, -1), BAD);
        twins.refused("write, slept 2", x -> x.write(0, 2), BAD);
        twins.refused("image -1", x -> x.image(-1), BAD);
        twins.refused("image 2", x -> x.image(2), BAD);
        twins.refused("restore -1", x -> x.restore(-1), BAD);
        twins.refused("restore 2", x -> x.restore(2), BAD);
    }

    private static void asksThatAreRefusedChangeNothing() {
        saysThatNothingChanges();
        Twins twins = new Twins(check, Tellings::rich);
        twins.refused("raider 3", x -> x.raider(3, 0), BAD);
        twins.refused("raider, what 5", x -> x.raider(0, 5), BAD);
        twins.refused("tree 2", x -> x.tree(2, 0), BAD);
        twins.refused("tree, what 3", x -> x.tree(0, 3), BAD);
        twins.refused("far 24", x -> x.far(0, 24), BAD);
        twins.refused("ahead 4", x -> x.ahead(4), BAD);
        twins.refused("raiderAhead, raider 3", x -> x.raiderAhead(3, 0), BAD);
        twins.refused("raiderAhead, what 2", x -> x.raiderAhead(0, 2), BAD);
        twins.refused("safe, raider 3", x -> x.safe(3, 0, 0), BAD);
        twins.refused("safe, tree 2", x -> x.safe(0, 2, 0), BAD);
        twins.refused("safe, how 2", x -> x.safe(0, 0, 2), BAD);
        twins.refused("safe of a watch", x -> x.safe(2, 0, 0), STATE);
        twins.refused("bestAlone, raider 3", x -> x.bestAlone(3, 0), BAD);
        twins.refused("bestAlone, what 4", x -> x.bestAlone(0, 4), BAD);
        twins.refused("bestAlone of a watch", x -> x.bestAlone(2, 0), STATE);
        twins.refused("watch, raider 3", x -> x.watch(3), BAD);
        twins.refused("watch of who has no plan", x -> x.watch(2), STATE);
        twins.refused("bare 2", x -> x.bare(2), BAD);
        twins.refused("sleep, hour 24", x -> x.sleep(24, 0), BAD);
        twins.refused("sleep, what 2", x -> x.sleep(4, 2), BAD);
        twins.refused("kind 3", x -> x.kind(3), BAD);
        twins.refused("as, raider 3", x -> x.as(3, 0), BAD);
        twins.refused("as, kind 6", x -> x.as(0, 6), BAD);
        twins.refused("as what he is not", x -> x.as(0, 2), KIND);
        twins.refused("ask, raider 3: the trace stays", x -> x.ask(3, 0), BAD);
        twins.refused("ask, what 2: the trace stays", x -> x.ask(0, 2), BAD);
        twins.refused("trace 16", x -> x.trace(16), OrchardWall.NONE);
        twins.refused("count 9", x -> x.count(9), BAD);
    }

    private static void rowsThatTellAreRefusedAndChangeNothing() {
        saysThatNothingChanges();
        Twins twins = new Twins(check, Tellings::rich);
        twins.refused("days, row 8", x -> x.days(8, 0, 1), BAD);
        twins.refused("days, l 0", x -> x.days(0, 0, 0), BAD);
        twins.refused("days, l 21", x -> x.days(0, 0, 21), BAD);
        twins.refused("days, missing", x -> x.days(4, 0, 1), NULL);
        twins.refused("days, place 2 of 7", x -> x.days(0, 2, 1), PLACE);
        twins.refused("days, an item of 21", x -> x.days(0, 1, 1), BAD);
        twins.refused("daysValue, day 6", x -> x.daysValue(0, 0, 1, 6, 0), BAD);
        twins.refused("daysValue, what 2", x -> x.daysValue(0, 0, 1, 0, 2), BAD);
        twins.refused("daysValue, missing", x -> x.daysValue(4, 0, 1, 0, 0), NULL);
        twins.refused("daysValue, place -1", x -> x.daysValue(0, -1, 1, 0, 0), PLACE);
        twins.refused("daysValue, an item of 21", x -> x.daysValue(0, 1, 1, 0, 0), BAD);
        twins.refused("shares, row 8", x -> x.shares(8, 0), BAD);
        twins.refused("shares, missing", x -> x.shares(4, 0), NULL);
        twins.refused("shares, place 5 of 7", x -> x.shares(0, 5), PLACE);
        twins.refused("who, row 8", x -> x.who(8, 0, 0), BAD);
        twins.refused("who, what 2", x -> x.who(0, 0, 2), BAD);
        twins.refused("who, missing", x -> x.who(4, 0, 0), NULL);
        twins.refused("who, place 6 of 7", x -> x.who(0, 6, 0), PLACE);
    }

    private static void withoutAnOrchardNothingChanges() {
        saysThatNothingChanges();
        Twins twins = new Twins(check, Tellings::without);
        twins.refused("undo", x -> x.undo(), STATE);
        twins.refused("plan", x -> x.plan(0, -1, 0, 0), BAD);
        twins.refused("raid", x -> x.raid(), STATE);
        twins.refused("grow", x -> x.grow(0, 1), BAD);
        twins.refused("raider", x -> x.raider(0, 0), BAD);
        twins.refused("tree", x -> x.tree(0, 0), BAD);
        twins.refused("ahead", x -> x.ahead(0), STATE);
        twins.refused("raiderAhead", x -> x.raiderAhead(0, 0), BAD);
        twins.refused("safe", x -> x.safe(0, 0, 0), BAD);
        twins.refused("bestAlone", x -> x.bestAlone(0, 0), BAD);
        twins.refused("watch", x -> x.watch(0), BAD);
        twins.refused("shares", x -> x.shares(0, 0), STATE);
        twins.refused("bare", x -> x.bare(0), STATE);
        twins.refused("who", x -> x.who(0, 0, 0), STATE);
        twins.refused("image", x -> x.image(0), STATE);
        twins.refused("restore", x -> x.restore(0), STATE);
        twins.refused("kind", x -> x.kind(0), BAD);
        twins.refused("as", x -> x.as(0, 0), BAD);
        twins.refused("ask", x -> x.ask(0, 0), BAD);
        twins.refused("kind of the least", x -> x.kind(LEAST), BAD);
        twins.refused("kind of the greatest", x -> x.kind(GREATEST), BAD);
    }

    private static void whatIsFullStaysFull() {
        saysThatNothingChanges();
        // A p in place of what is behind the law would be another fault.
        new Twins(check, Tellings::fullTape).refused("feed", x -> x.feed('p'), FULL);
        new Twins(check, Tellings::fullBook).refused("write", x -> x.write(0, 1), FULL);
        new Twins(check, Tellings::fullTrees).refused("grow 60 by 1", x -> x.grow(0, 1), FULL);
        new Twins(check, Tellings::fullTrees).refused("grow 31 by 30", x -> x.grow(1, 30), FULL);
        new Twins(check, Tellings::fullRaids).refused("raid", x -> x.raid(), FULL);
        // Of 24 acts the oldest is not forgotten for one that is refused.
        Twins acts = new Twins(check, Tellings::fullActs);
        acts.refused("plan", x -> x.plan(0, 0, 21, 0), BAD);
        acts.refused("plan of a watch", x -> x.plan(1, 0, 1, 0), STATE);
        acts.refused("grow", x -> x.grow(0, 31), BAD);
        acts.refused("restore what was not kept", x -> x.restore(0), STATE);
        acts.refused("restore none of the two", x -> x.restore(2), BAD);
    }
}
