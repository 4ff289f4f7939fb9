/** Promises 32 to 36, and what "Terms" says of kinds, asks and their bodies: bounds, refusals, the trace's ends. */
public final class EdgeAsksTest {
    private static final int BAD = OrchardWall.BAD, NONE = OrchardWall.NONE, KIND = -1000013;
    private static final int LEAST = Integer.MIN_VALUE, GREATEST = Integer.MAX_VALUE;
    private static final String SORTS = "pqswk";
    private static final Check check = new Check();

    public static void main(String[] args) {
        kindsAreOneToFive();
        kindIsRefused();
        aRaiderIsOfKinds();
        asIsRefused();
        sizes();
        marks();
        theNearestBodyBegins();
        plannedApplesCount();
        askIsRefused();
        theTraceIsEmptyAhead();
        theTraceHasEnds();
        thingsAreCounted();
        countsOfNothingAndOfAll();
        countIsRefused();
        check.end();
    }

    private static void kindsAreOneToFive() {
        check.says("Promise 32", "The KIND of a RAIDER, as told (1 to 5).");
        OrchardWall x = Check.told("o0,1,1,0,0;p1;q1;s1;w1;");
        check.due("p", x.kind(0), 1);
        check.due("q", x.kind(1), 2);
        check.due("s", x.kind(2), 3);
        check.due("w", x.kind(3), 4);
        check.due("k", Check.told("o0,1,1,0,0;k1;").kind(0), 5);
    }

    private static void kindIsRefused() {
        check.says("Promise 32", "BAD.");
        OrchardWall x = Check.told("o0,1,1,0,0;p1;w1;");
        check.due("1", x.kind(1), 4);
        check.due("2 of 2", x.kind(2), BAD);
        check.due("-1", x.kind(-1), BAD);
        check.due("least", x.kind(LEAST), BAD);
        check.due("greatest", x.kind(GREATEST), BAD);
        check.due("no raiders", Check.told("o0,1,1,0,0;").kind(0), BAD);
        check.due("no orchard", new OrchardWall().kind(0), BAD);
    }

    private static void aRaiderIsOfKinds() {
        check.says("Terms 3", "KINDS of RAIDERS: 0 RAIDER; 1 PICKER, a RAIDER; 2 QUICK, a PICKER; 3 STOUT, a"
                + " PICKER; 4 WATCH, a RAIDER; 5 SISTER, a WATCH. By this it is asked.");
        check.says("Promise 33", "A RAIDER is taken as one of a KIND (0 .. 5): its number.");
        boolean[][] isOne = {
            {true, true, false, false, false, false},
            {true, true, true, false, false, false},
            {true, true, false, true, false, false},
            {true, false, false, false, true, false},
            {true, false, false, false, true, true},
        };
        for (int sort = 0; sort < 5; sort++) {
            OrchardWall x = Check.told("o0,1,1,0,0;k1;p1;" + SORTS.charAt(sort) + "1;");
            for (int kind = 0; kind <= 5; kind++) {
                check.due(SORTS.charAt(sort) + " as " + kind, x.as(2, kind), isOne[sort][kind] ? 2 : KIND);
                check.due("status", x.status(), isOne[sort][kind] ? 0 : 3);
            }
        }
    }

    private static void asIsRefused() {
        check.says("Promise 33", "BAD; KIND: it is no such one.");
        OrchardWall x = Check.told("o0,1,1,0,0;k1;p1;");
        check.due("kind 5", x.as(0, 5), 0);
        check.due("kind 6", x.as(0, 6), BAD);
        check.due("kind 0", x.as(0, 0), 0);
        check.due("kind -1", x.as(0, -1), BAD);
        check.due("kind greatest", x.as(0, GREATEST), BAD);
        check.due("raider 1", x.as(1, 1), 1);
        check.due("raider 2 of 2", x.as(2, 0), BAD);
        check.due("raider -1", x.as(-1, 0), BAD);
        check.due("raider 2 of 2, kind 6", x.as(2, 6), BAD);
        check.due("no such one", x.as(1, 5), KIND);
        check.due("no orchard", new OrchardWall().as(0, 0), BAD);
    }

    private static void ask(OrchardWall x, int one, int what, int due, int... trace) {
        String name = "ask " + what + " of " + one;
        check.due(name, x.ask(one, what), due);
        for (int i = 0; i < trace.length; i++) {
            check.due(name + ", trace " + i, x.trace(i), trace[i]);
        }
        check.due(name + ", the trace ends", x.trace(trace.length), NONE);
    }

    private static void sizes() {
        check.says("Terms 4", "0 SIZE: 10 lent to all RAIDERS: FULL. 11 of PICKERS: what 10 gives, and MARK. 12 of"
                + " QUICK ones: 0 less what 11 gives. 13 of WATCHES: what 10 gives, less 100. 14 of SISTERS: what"
                + " 13 gives, twice.");
        OrchardWall x = Check.told("o0,1,1,0,0;p20;q20;s20;w20;");
        ask(x, 0, 0, 20, 11, 10, 21, 20);
        ask(x, 1, 0, -22, 12, 11, 10, 24, 21, 20);
        ask(x, 2, 0, 20 + 2 - 1000, 11, 10, 22, 21, 20);
        ask(x, 3, 0, -80, 13, 10);
        ask(Check.told("o0,1,1,0,0;k20;"), 0, 0, -160, 14, 13, 10);
        ask(Check.told("o0,1,1,0,0;k1;"), 0, 0, -198, 14, 13, 10);
    }

    private static void marks() {
        check.says("Terms 4", "1 MARK: 20 lent to all RAIDERS: the number. 21 of PICKERS: what 20 gives, and"
                + " PLANNED apples (0 without a PLAN). 22 of STOUT ones: what 21 gives, less 1000. 23 of WATCHES:"
                + " what 20 gives, less SIZE. 24 of QUICK ones: what 21 gives, twice.");
        OrchardWall x = Check.told("o0,1,1,0,0;p20;q20;s20;w20;");
        ask(x, 0, 1, 0, 21, 20);
        ask(x, 1, 1, 2, 24, 21, 20);
        ask(x, 2, 1, -998, 22, 21, 20);
        ask(x, 3, 1, 83, 23, 20, 13, 10);
        OrchardWall sister = Check.told("o0,1,1,0,0;p1;p1;p1;k20;");
        ask(sister, 3, 1, 163, 23, 20, 14, 13, 10);
    }

    private static void theNearestBodyBegins() {
        check.says("Terms 4", "(Of an ask the BODY told for the KIND begins, else that of the nearest KIND that it"
                + " is, too, else the one that is lent; SIZE, MARK within others are asked of the same RAIDER"
                + " anew.)");
        OrchardWall x = Check.told("o0,1,1,0,0;q1;s1;w1;k1;");
        x.ask(0, 0);
        check.due("told for the kind: a quick one's size", x.trace(0), 12);
        x.ask(1, 0);
        check.due("of the nearest: a stout one's size", x.trace(0), 11);
        x.ask(3, 1);
        check.due("of the nearest: a sister's mark", x.trace(0), 23);
        check.due("size within it, of a sister anew", x.trace(2), 14);
        x.ask(0, 0);
        check.due("mark within it, of a quick one anew", x.trace(3), 24);
        x.ask(1, 0);
        check.due("mark within it, of a stout one anew", x.trace(2), 22);
    }

    private static void plannedApplesCount() {
        check.says("Terms 4", "and PLANNED apples (0 without a PLAN).");
        OrchardWall x = Check.told("o0,1,60,9,40;t2,3,1;p5;q5;s5;");
        for (int one = 0; one < 3; one++) {
            x.plan(one, 0, 20, one % 2);
        }
        ask(x, 0, 1, 20, 21, 20);
        ask(x, 1, 1, 42, 24, 21, 20);
        ask(x, 2, 1, -978, 22, 21, 20);
        ask(x, 0, 0, 25, 11, 10, 21, 20);
        ask(x, 1, 0, -47, 12, 11, 10, 24, 21, 20);
        x.raid();
        ask(x, 0, 1, 20, 21, 20);
        x.plan(0, 0, 1, 0);
        ask(x, 0, 1, 1, 21, 20);
        x.plan(0, -1, 20, 0);
        ask(x, 0, 1, 0, 21, 20);
    }

    private static void askIsRefused() {
        check.says("Promise 34", "An ASK (0, 1) of a RAIDER. BAD.");
        OrchardWall x = Check.told("o0,1,1,0,0;w1;w2;");
        check.due("what 0", x.ask(1, 0), -98);
        check.due("what 1", x.ask(1, 1), 99);
        check.due("what -1", x.ask(1, -1), BAD);
        check.due("what 2", x.ask(1, 2), BAD);
        check.due("raider -1", x.ask(-1, 0), BAD);
        check.due("raider 2 of 2", x.ask(2, 0), BAD);
        check.due("raider least", x.ask(LEAST, 0), BAD);
        check.due("what greatest", x.ask(0, GREATEST), BAD);
        check.due("no orchard", new OrchardWall().ask(0, 0), BAD);
    }

    private static void theTraceIsEmptyAhead() {
        check.says("Promise 34", "THE TRACE is empty ahead of it.");
        OrchardWall x = Check.told("o0,1,1,0,0;q1;w2;");
        ask(x, 0, 0, -1, 12, 11, 10, 24, 21, 20);
        ask(x, 1, 0, -98, 13, 10);
        check.due("nothing of before", x.trace(5), NONE);
        // A refused ask is none.
        x.ask(2, 0);
        x.ask(0, 2);
        check.due("the trace stays", x.trace(0), 13);
        check.due("and its end", x.trace(2), NONE);
    }

    private static void theTraceHasEnds() {
        check.says("Terms 4", "ASKS of RAIDERS, by BODIES, each of which leaves its number in THE TRACE as it"
                + " begins (the first 16):");
        check.says("Promise 35", "Number i of THE TRACE; NONE.");
        OrchardWall x = new OrchardWall();
        check.due("before an ask", x.trace(0), NONE);
        Check.tell(x, "o0,1,1,0,0;q1;");
        check.due("before an ask yet", x.trace(0), NONE);
        x.ask(0, 0);
        // Six bodies are the most that an ask begins.
        check.due("0", x.trace(0), 12);
        check.due("-1", x.trace(-1), NONE);
        check.due("5", x.trace(5), 20);
        check.due("6", x.trace(6), NONE);
        check.due("15", x.trace(15), NONE);
        check.due("16", x.trace(16), NONE);
        check.due("least", x.trace(LEAST), NONE);
        check.due("greatest", x.trace(GREATEST), NONE);
        x.image(0);
        x.restore(0);
        check.due("an image leaves it", x.trace(5), 20);
        Check.tell(x, "o0,1,1,0,0;w1;");
        check.due("another orchard leaves it", x.trace(5), 20);
    }

    private static void counts(OrchardWall x, int... due) {
        for (int what = 0; what < due.length; what++) {
            check.due("count " + what, x.count(what), due[what]);
        }
    }

    private static void thingsAreCounted() {
        check.says("Promise 36", "How many: 0 ROWS, 1 TREES, 2 RAIDERS, 3 hens, 4 RAIDS, 5 GOT by all, 6 lines of"
                + " THE BOOK, 7 ACTS that can be undone, 8 bytes on the tape.");
        OrchardWall x = Check.told("o0,1,60,9,40;h9,1;h9,1;t2,9,7;t3,9,1;t4,9,1;p9;p9;p9;p9;");
        x.plan(0, 0, 1, 0);
        x.raid();
        x.raid();
        x.raid();
        x.raid();
        x.raid();
        x.row(0, 0, 0);
        for (int line = 0; line < 7; line++) {
            x.write(0, 0);
        }
        Check.feed(x, "12345678");
        counts(x, 1, 3, 4, 2, 5, 35, 7, 6, 8);
    }

    private static void countsOfNothingAndOfAll() {
        check.says("Promise 36", "How many:");
        counts(new OrchardWall(), 0, 0, 0, 0, 0, 0, 0, 0, 0);
        OrchardWall x = Check.told("o0,1,60,9,40;h9,1;h9,1;h9,1;"
                + "t2,9,7;t3,9,1;t4,9,1;t5,9,1;t6,9,1;t7,9,1;p9;p9;p9;p9;");
        x.plan(0, 0, 1, 0);
        for (int raid = 0; raid < 99; raid++) {
            x.raid();
        }
        for (int row = 0; row < 8; row++) {
            x.row(row, 0, 0);
        }
        Tellings.fullBook(x);
        Tellings.fullTape(x);
        counts(x, 8, 6, 4, 3, 99, 63, 16, 24, 120);
    }

    private static void countIsRefused() {
        check.says("Promise 36", "BAD.");
        OrchardWall x = new OrchardWall();
        check.due("8", x.count(8), 0);
        check.due("9", x.count(9), BAD);
        check.due("-1", x.count(-1), BAD);
        check.due("least", x.count(LEAST), BAD);
        check.due("greatest", x.count(GREATEST), BAD);
    }
}
