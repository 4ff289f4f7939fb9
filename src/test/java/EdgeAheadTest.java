/** Promises 18 to 22, and what "Terms" says of what is foretold, of one alone, of watching: bounds and refusals. */
public final class EdgeAheadTest {
    private static final int BAD = OrchardWall.BAD, STATE = OrchardWall.STATE, NONE = OrchardWall.NONE;
    private static final int LEAST = Integer.MIN_VALUE, GREATEST = Integer.MAX_VALUE;
    private static final Check check = new Check();

    public static void main(String[] args) {
        nothingChanges();
        nothingChangesByRows();
        aheadOfNobody();
        aheadOfAll();
        aheadIsRefused();
        whoIsNotOut();
        applesOfARaider();
        raiderAheadIsRefused();
        safeIsTwentyAtMost();
        safeIsNone();
        safeIsBetween();
        nobodyElseIsThere();
        safeIsRefused();
        bestOfSeveralIsTheFirst();
        bestIsNotCaught();
        bestIsNone();
        bestAloneIsRefused();
        watchingIsMoreOrLess();
        watchIsRefused();
        check.end();
    }

    private static void nothingChanges() {
        check.says("Terms 3", "FORETOLD (nothing changes).");
        Twins twins = new Twins(check, Tellings::rich);
        for (int i = 0; i < 4; i++) {
            int what = i;
            twins.foretold("ahead " + what, x -> x.ahead(what), false);
            twins.foretold("bestAlone " + what, x -> x.bestAlone(0, what), false);
        }
        for (int i = 0; i < 2; i++) {
            int what = i;
            twins.foretold("raiderAhead " + what, x -> x.raiderAhead(1, what), false);
            twins.foretold("safe " + what, x -> x.safe(0, 1, what), false);
            twins.foretold("watch " + what, x -> x.watch(what), false);
            twins.foretold("bare " + what, x -> x.bare(what), false);
            twins.foretold("sleep " + what, x -> x.sleep(4, what), false);
        }
        twins.foretold("quietest", x -> x.quietest(), false);
        twins.foretold("kind", x -> x.kind(0), false);
        twins.foretold("raider", x -> x.raider(0, 4), false);
        twins.foretold("tree", x -> x.tree(0, 1), false);
        twins.foretold("far", x -> x.far(0, 23), false);
        twins.foretold("count", x -> x.count(7), false);
        twins.foretold("trace", x -> x.trace(0), false);
        twins.foretold("fault", x -> x.fault(), false);
    }

    private static void nothingChangesByRows() {
        check.says("Terms 3", "FORETOLD (nothing changes).");
        Twins twins = new Twins(check, Tellings::rich);
        twins.foretold("days", x -> x.days(1, 0, 7), true);
        twins.foretold("daysValue", x -> x.daysValue(1, 0, 7, -1, 0), true);
        twins.foretold("daysValue, odds", x -> x.daysValue(1, 0, 7, 5, 1), true);
        twins.foretold("shares", x -> x.shares(2, 5), true);
        twins.foretold("who", x -> x.who(2, 0, 0), true);
        twins.foretold("who, the least", x -> x.who(2, 0, 1), true);
        twins.foretold("as", x -> x.as(0, 1), true);
    }

    private static void aheadOfNobody() {
        check.says("Promise 18", "A RAID: GOT (what = 0), CAUGHT (1), the door (2; NONE), the last SECOND (3; 0"
                + " without a PLAN).");
        OrchardWall x = Check.told("o0,1,1,0,0;h1,9;t2,9,1;p9;w9;");
        check.due("got", x.ahead(0), 0);
        check.due("caught", x.ahead(1), 0);
        check.due("the door", x.ahead(2), NONE);
        check.due("the last second", x.ahead(3), 0);
        OrchardWall empty = Check.told("o0,1,1,0,0;");
        check.due("no raiders, the door", empty.ahead(2), NONE);
        check.due("no raiders, the last second", empty.ahead(3), 0);
    }

    private static void aheadOfAll() {
        check.says("Terms 3", "A RAID by PLANS as they are: GOT; CAUGHT (bits); the SECOND in which the door GOES"
                + " (NONE); the last SECOND.");
        OrchardWall x = Check.told("o0,1,8,9,0;t2,30,9;p20;p20;p20;p20;");
        for (int raider = 0; raider < 4; raider++) {
            x.plan(raider, 0, 20, 1);
        }
        check.due("four thrown", x.ahead(0), 36);
        check.due("all caught", x.ahead(1), 15);
        check.due("the door", x.ahead(2), 4);
        check.due("the last second", x.ahead(3), 5);
        x.plan(0, -1, 0, 0);
        // 6 in 4, 12 in 6.
        check.due("by plans as they are then, got", x.ahead(0), 54);
        check.due("caught", x.ahead(1), 14);
        check.due("the door", x.ahead(2), 6);
        check.due("as the raid is", x.raid(), 54);
    }

    private static void aheadIsRefused() {
        check.says("Promise 18", "BAD; STATE: no ORCHARD (ahead of BAD).");
        OrchardWall x = new OrchardWall();
        check.due("no orchard", x.ahead(0), STATE);
        check.due("no orchard, what 4", x.ahead(4), STATE);
        check.due("no orchard, what -1", x.ahead(-1), STATE);
        Check.tell(x, "o0,1,1,0,0;");
        check.due("3", x.ahead(3), 0);
        check.due("4", x.ahead(4), BAD);
        check.due("-1", x.ahead(-1), BAD);
        check.due("least", x.ahead(LEAST), BAD);
        check.due("greatest", x.ahead(GREATEST), BAD);
    }

    private static void whoIsNotOut() {
        check.says("Terms 3", "Of a RAIDER the SECOND in which he is OUT (NONE: CAUGHT, no PLAN);");
        check.says("Promise 19", "Of a RAIDER: OUT (what = 0; NONE), apples (1).");
        OrchardWall x = Check.told("o0,1,2,9,0;t2,9,1;t3,9,1;q1;p9;p9;");
        x.plan(0, 0, 1, 0);
        x.plan(1, 1, 9, 0);
        // The quick one is out in 4; the other's apple in 6 is the second.
        check.due("out", x.raiderAhead(0, 0), 4);
        check.due("caught", x.raiderAhead(1, 0), NONE);
        check.due("no plan", x.raiderAhead(2, 0), NONE);
        OrchardWall y = Check.told("o0,1,1,0,0;w1;k1;");
        check.due("a watch", y.raiderAhead(0, 0), NONE);
        check.due("a sister", y.raiderAhead(1, 0), NONE);
    }

    private static void applesOfARaider() {
        check.says("Terms 3", "apples he has GOT.");
        OrchardWall x = Check.told("o0,1,2,9,0;t2,9,0;t3,9,9;q1;p9;p9;w1;");
        x.plan(0, 0, 1, 0);
        check.due("apples, whatever they are worth", x.raiderAhead(0, 1), 1);
        check.due("no plan", x.raiderAhead(1, 1), 0);
        check.due("a watch", x.raiderAhead(3, 1), 0);
        OrchardWall y = Check.told("o0,1,2,9,0;t2,9,0;t3,9,9;q1;p9;p9;");
        y.plan(1, 1, 9, 0);
        y.plan(2, 1, 9, 1);
        check.due("caught with what he carried", y.raiderAhead(1, 1), 0);
        check.due("caught, but thrown", y.raiderAhead(2, 1), 1);
        y.plan(2, -1, 0, 0);
        check.due("what he threw by a plan that is gone", y.raiderAhead(2, 1), 0);
    }

    private static void raiderAheadIsRefused() {
        check.says("Promise 19", "BAD.");
        OrchardWall x = Check.told("o0,1,1,0,0;t2,9,1;p9;w9;");
        check.due("raider 1", x.raiderAhead(1, 1), 0);
        check.due("raider 2 of 2", x.raiderAhead(2, 1), BAD);
        check.due("raider -1", x.raiderAhead(-1, 1), BAD);
        check.due("raider least", x.raiderAhead(LEAST, 0), BAD);
        check.due("what -1", x.raiderAhead(0, -1), BAD);
        check.due("what 2", x.raiderAhead(0, 2), BAD);
        check.due("no orchard", new OrchardWall().raiderAhead(0, 0), BAD);
    }

    private static void safeIsTwentyAtMost() {
        check.says("Promise 20", "SAFE.");
        check.says("Terms 3", "SAFE from a TREE, HOW told: the most APPLES PLANNED (1 to 20) by which he is not"
                + " CAUGHT;");
        OrchardWall x = Check.told("o0,1,60,9,40;t2,30,1;t3,0,1;t4,1,1;p20;p1;");
        for (int tree = 0; tree < 3; tree++) {
            for (int how = 0; how < 2; how++) {
                check.due("never heard", x.safe(0, tree, how), 20);
                check.due("never heard, full by 1", x.safe(1, tree, how), 20);
            }
        }
        // Of apples that he does not have by it, too: the dog is quick, but one apple is not heard.
        OrchardWall y = Check.told("o0,1,2,9,0;t2,1,1;t3,30,1;p20;p1;");
        check.due("one apple is there", y.safe(0, 0, 0), 20);
        check.due("one apple can be carried", y.safe(1, 1, 0), 20);
        check.due("one apple is thrown", y.safe(0, 0, 1), 0);
    }

    private static void safeIsNone() {
        check.says("Terms 3", "0: none.");
        OrchardWall x = Check.told("o0,1,1,9,0;t2,9,1;t3,0,1;p9;q9;");
        check.due("by one apple", x.safe(0, 0, 0), 0);
        check.due("by one thrown", x.safe(0, 0, 1), 0);
        check.due("the quick one is out with one", x.safe(1, 0, 0), 1);
        check.due("without an apple", x.safe(0, 1, 0), 20);
        OrchardWall hens = Check.told("o0,1,1,9,0;h2,1;t3,0,1;p9;");
        check.due("by the hens alone", hens.safe(0, 0, 0), 0);
    }

    private static void safeIsBetween() {
        check.says("Terms 3", "the most APPLES PLANNED (1 to 20) by which he is not CAUGHT;");
        for (int ears = 2; ears <= 20; ears++) {
            OrchardWall x = Check.told("o0,1," + ears + ",9,0;t2,30,1;p20;");
            // Called back behind 9 seconds, the dog there behind 1: as many as are not heard.
            check.due("carried, ears " + ears, x.safe(0, 0, 0), ears - 1);
            check.due("thrown, ears " + ears, x.safe(0, 0, 1), (ears - 1) / 2);
        }
        OrchardWall x = Check.told("o0,1,21,9,0;t2,30,1;p20;");
        check.due("ears 21", x.safe(0, 0, 0), 20);
    }

    private static void nobodyElseIsThere() {
        check.says("Terms 3", "ALONE: a RAID of one RAIDER with a told PLAN, nobody else being there (no watch, no"
                + " sister):");
        String orchard = "o0,5,4,9,0;t4,30,2;p20;";
        for (String others : new String[] {"", "w1;", "k1;", "w1;k1;", "p20;", "q20;w1;"}) {
            OrchardWall x = Check.told(orchard + others);
            x.plan(1, 0, 20, 1);
            x.plan(0, 0, 1, 1);
            check.due("safe with " + others, x.safe(0, 0, 0), 5);
            check.due("best with " + others, x.bestAlone(0, 1), 5);
            check.due("his own plan stays", x.raider(0, 2), 1);
        }
        for (String others : new String[] {"w1;w1;w1;", "k1;k1;k1;", "p20;w1;k1;", "p20;q20;s20;"}) {
            OrchardWall x = Check.told("o0,5,4,9,0;t4,30,2;" + others + "p20;");
            for (int raider = 0; raider < 4; raider++) {
                x.plan(raider, 0, 20, 1);
            }
            check.due("safe behind " + others, x.safe(3, 0, 0), 5);
            check.due("best behind " + others, x.bestAlone(3, 1), 5);
        }
    }

    private static void safeIsRefused() {
        check.says("Promise 20", "BAD; STATE: a watch, a sister.");
        OrchardWall x = Check.told("o0,1,60,9,40;t2,9,1;t3,9,1;p9;w9;k9;");
        check.due("raider -1", x.safe(-1, 0, 0), BAD);
        check.due("raider 3 of 3", x.safe(3, 0, 0), BAD);
        check.due("tree -1", x.safe(0, -1, 0), BAD);
        check.due("tree 1", x.safe(0, 1, 0), 20);
        check.due("tree 2 of 2", x.safe(0, 2, 0), BAD);
        check.due("how -1", x.safe(0, 0, -1), BAD);
        check.due("how 2", x.safe(0, 0, 2), BAD);
        check.due("a watch", x.safe(1, 0, 0), STATE);
        check.due("a sister", x.safe(2, 0, 0), STATE);
        check.due("a watch, no such tree", x.safe(1, 2, 0), BAD);
        check.due("a sister, how 2", x.safe(2, 0, 2), BAD);
        check.due("no orchard", new OrchardWall().safe(0, 0, 0), BAD);
        check.due("no trees", Check.told("o0,1,1,0,0;p9;").safe(0, 0, 0), BAD);
    }

    private static void best(String text, int tree, int apples, int how, int got) {
        OrchardWall x = Check.told(text);
        check.due(text + " tree", x.bestAlone(0, 0), tree);
        check.due(text + " apples", x.bestAlone(0, 1), apples);
        check.due(text + " how", x.bestAlone(0, 2), how);
        check.due(text + " got", x.bestAlone(0, 3), got);
    }

    private static void bestOfSeveralIsTheFirst() {
        check.says("Terms 3", "BEST ALONE: the PLAN by which he GETS most and is not CAUGHT, of several the first"
                + " (by TREES, APPLES, HOW); what he GETS;");
        check.says("Promise 21", "BEST ALONE: TREE (what = 0), APPLES (1), HOW (2), what he GETS (3);");
        best("o0,1,60,9,40;t2,30,9;t3,30,9;p20;", 0, 20, 0, 180);
        best("o0,1,60,9,40;t2,30,8;t3,30,9;p20;", 1, 20, 0, 180);
        best("o0,1,60,9,40;t2,20,3;t3,30,2;t4,7,9;p20;", 2, 7, 0, 63);
        // Of plans for 7 to 20 apples, where 7 are there, the least.
        best("o0,1,60,9,40;t2,7,1;p20;", 0, 7, 0, 7);
        // Carried as many as he can: 3; thrown more.
        best("o0,1,60,9,40;t2,7,1;p3;", 0, 7, 1, 7);
        best("o0,1,60,9,40;t2,3,1;p3;", 0, 3, 0, 3);
        // Nothing is got by any: the first of all.
        best("o0,1,60,9,40;t2,30,0;t3,0,9;p20;", 0, 1, 0, 0);
        best("o0,1,60,9,40;t2,0,9;t3,30,0;p20;", 0, 1, 0, 0);
        best("o0,1,60,9,40;t2,0,9;t3,1,1;p20;", 1, 1, 0, 1);
    }

    private static void bestIsNotCaught() {
        check.says("Terms 3", "the PLAN by which he GETS most and is not CAUGHT,");
        // Three thrown are got as well, but he is caught then; of two he is out in the second of the dog.
        best("o0,1,2,9,3;t2,30,1;p1;", 0, 2, 1, 2);
        best("o0,1,2,9,3;t2,30,1;p20;", 0, 3, 0, 3);
        // By tree 0 he is always caught, by tree 1 with two.
        best("o0,1,2,9,0;h3,9;t3,30,9;t7,30,1;p20;", 1, 1, 0, 1);
    }

    private static void bestIsNone() {
        check.says("Terms 3", "what he GETS; NONE.");
        check.says("Promise 21", "what he GETS (3); NONE.");
        best("o0,1,60,9,40;p20;", NONE, NONE, NONE, NONE);
        best("o0,1,1,9,0;t2,9,9;t3,9,9;p20;", NONE, NONE, NONE, NONE);
        // One that he gets nothing from is better than none.
        best("o0,1,1,9,0;t2,9,9;t3,0,9;p20;", 1, 1, 0, 0);
    }

    private static void bestAloneIsRefused() {
        check.says("Promise 21", "BAD; STATE: a watch, a sister.");
        OrchardWall x = Check.told("o0,1,60,9,40;t2,9,1;p9;w9;k9;");
        check.due("raider -1", x.bestAlone(-1, 0), BAD);
        check.due("raider 3 of 3", x.bestAlone(3, 0), BAD);
        check.due("what -1", x.bestAlone(0, -1), BAD);
        check.due("what 3", x.bestAlone(0, 3), 9);
        check.due("what 4", x.bestAlone(0, 4), BAD);
        check.due("what greatest", x.bestAlone(0, GREATEST), BAD);
        check.due("a watch", x.bestAlone(1, 0), STATE);
        check.due("a sister", x.bestAlone(2, 3), STATE);
        check.due("a watch, what 4", x.bestAlone(1, 4), BAD);
        check.due("no orchard", new OrchardWall().bestAlone(0, 0), BAD);
    }

    private static void watchingIsMoreOrLess() {
        check.says("Promise 22", "WATCH.");
        check.says("Terms 3", "WATCH: by how much more is GOT by PLANS as they are, if one who has a PLAN were a"
                + " watch in place of that (can be below 0).");
        OrchardWall x = Check.told("o0,1,2,9,3;t2,30,1;p20;p20;");
        x.plan(0, 0, 20, 0);
        x.plan(1, 0, 20, 0);
        // Both are caught; one alone has two by the call.
        check.due("more", x.watch(0), 2);
        check.due("more, too", x.watch(1), 2);
        check.due("the plan stays", x.raider(0, 1), 0);
        OrchardWall alone = Check.told("o0,1,60,9,40;t2,30,9;p20;p20;");
        alone.plan(0, 0, 20, 0);
        check.due("nobody else goes", alone.watch(0), -180);
        OrchardWall nothing = Check.told("o0,1,60,9,40;t2,30,0;p20;");
        nothing.plan(0, 0, 20, 0);
        check.due("neither more nor less", nothing.watch(0), 0);
        // A sister calls behind 2 seconds, a watch behind none; a watch that is there already changes nothing.
        OrchardWall sister = Check.told("o0,1,2,9,40;t2,30,1;t7,30,1;p20;p20;k1;");
        sister.plan(0, 0, 20, 1);
        sister.plan(1, 1, 20, 1);
        check.due("a watch in place of a sister's call", sister.watch(0), 1 - 4);
        OrchardWall watched = Check.told("o0,1,2,9,40;t2,30,1;t7,30,1;p20;p20;w1;");
        watched.plan(0, 0, 20, 1);
        watched.plan(1, 1, 20, 1);
        check.due("two watches", watched.watch(1), 1 - 2);
        // The quick one throws in 3, and the watch calls in 3: the other, who would have one in 4, has none.
        OrchardWall atOnce = Check.told("o0,1,2,9,40;t2,30,1;t7,30,1;p20;q20;p20;");
        atOnce.plan(0, 0, 20, 0);
        atOnce.plan(1, 0, 20, 1);
        atOnce.plan(2, 1, 20, 0);
        // Called in 12 without her: 5 and 5 carried, 5 thrown.
        check.due("no watch", atOnce.ahead(0), 15);
        check.due("at once", atOnce.watch(0), 1 - 15);
    }

    private static void watchIsRefused() {
        check.says("Promise 22", "BAD; STATE: he has no PLAN.");
        OrchardWall x = Check.told("o0,1,60,9,40;t2,9,1;p9;w9;k9;");
        check.due("raider -1", x.watch(-1), BAD);
        check.due("raider 3 of 3", x.watch(3), BAD);
        check.due("raider least", x.watch(LEAST), BAD);
        check.due("no plan", x.watch(0), STATE);
        check.due("a watch", x.watch(1), STATE);
        check.due("a sister", x.watch(2), STATE);
        x.plan(0, 0, 9, 0);
        check.due("a plan", x.watch(0), -9);
        x.plan(0, -1, 0, 0);
        check.due("no plan then", x.watch(0), STATE);
        check.due("no orchard", new OrchardWall().watch(0), BAD);
    }
}
