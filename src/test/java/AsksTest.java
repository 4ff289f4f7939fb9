/** Promises 32 to 35: kinds, what a raider can be taken as, asks and their trace. */
public final class AsksTest {
    private static final int BAD = OrchardWall.BAD, NONE = OrchardWall.NONE, KIND = -1000013;
    private static final Check check = new Check();

    public static void main(String[] args) {
        kindsAreTold();
        raidersAreTakenAs();
        asksAreAnswered();
        asksAreRefused();
        check.end();
    }

    private static void kindsAreTold() {
        OrchardWall x = Check.told("o0,1,1,0,0;p1;q1;s1;w1;");
        for (int one = 0; one < 4; one++) {
            check.due("kind " + one, x.kind(one), one + 1);
        }
        check.due("sister", Check.told("o0,1,1,0,0;k1;").kind(0), 5);
        check.due("kind 4", x.kind(4), BAD);
        check.due("kind -1", x.kind(-1), BAD);
        check.due("no orchard", new OrchardWall().kind(0), BAD);
    }

    private static void raidersAreTakenAs() {
        String sorts = "pqswk";
        // By sorts: of which kinds it is (bits).
        int[] kinds = {0b000011, 0b000111, 0b001011, 0b010001, 0b110001};
        for (int sort = 0; sort < 5; sort++) {
            OrchardWall x = Check.told("o0,1,1,0,0;w1;" + sorts.charAt(sort) + "1;");
            for (int kind = 0; kind < 6; kind++) {
                boolean isOne = (kinds[sort] >> kind & 1) != 0;
                check.due(sorts.charAt(sort) + " as " + kind, x.as(1, kind), isOne ? 1 : KIND);
                check.due("status", x.status(), isOne ? 0 : 3);
            }
            check.due("as -1", x.as(1, -1), BAD);
            check.due("as 6", x.as(1, 6), BAD);
            check.due("raider 2", x.as(2, 0), BAD);
            check.due("raider -1", x.as(-1, 0), BAD);
        }
    }

    private static void ask(OrchardWall x, int one, int what, int due, int... trace) {
        String name = "ask " + one + " " + what;
        check.due(name, x.ask(one, what), due);
        for (int i = 0; i < trace.length; i++) {
            check.due(name + " trace " + i, x.trace(i), trace[i]);
        }
        check.due(name + " trace ends", x.trace(trace.length), NONE);
    }

    private static void asksAreAnswered() {
        OrchardWall x = Check.told("o0,1,1,0,0;t5,9,9;w7;p6;q4;s12;");
        ask(x, 0, 0, -93, 13, 10);
        ask(x, 0, 1, 93, 23, 20, 13, 10);
        ask(x, 1, 0, 7, 11, 10, 21, 20);
        ask(x, 1, 1, 1, 21, 20);
        ask(x, 2, 0, -8, 12, 11, 10, 24, 21, 20);
        ask(x, 2, 1, 4, 24, 21, 20);
        ask(x, 3, 0, -985, 11, 10, 22, 21, 20);
        ask(x, 3, 1, -997, 22, 21, 20);
        x.plan(1, 0, 5, 0);
        x.plan(2, 0, 20, 1);
        x.plan(3, 0, 1, 1);
        ask(x, 1, 0, 12, 11, 10, 21, 20);
        ask(x, 2, 0, -48, 12, 11, 10, 24, 21, 20);
        ask(x, 2, 1, 44, 24, 21, 20);
        ask(x, 3, 1, -996, 22, 21, 20);
        x.plan(1, -1, 5, 0);
        ask(x, 1, 1, 1, 21, 20);
        OrchardWall sister = Check.told("o0,1,1,0,0;p1;k20;");
        ask(sister, 1, 0, -160, 14, 13, 10);
        ask(sister, 1, 1, 161, 23, 20, 14, 13, 10);
    }

    private static void asksAreRefused() {
        OrchardWall x = new OrchardWall();
        check.due("no orchard", x.ask(0, 0), BAD);
        check.due("no trace", x.trace(0), NONE);
        Check.tell(x, "o0,1,1,0,0;w7;");
        x.ask(0, 0);
        check.due("raider 1", x.ask(1, 0), BAD);
        check.due("raider -1", x.ask(-1, 0), BAD);
        check.due("what 2", x.ask(0, 2), BAD);
        check.due("what -1", x.ask(0, -1), BAD);
        check.due("the trace stays", x.trace(0), 13);
        check.due("the trace stays, too", x.trace(1), 10);
        check.due("trace -1", x.trace(-1), NONE);
        check.due("trace 16", x.trace(16), NONE);
        check.due("trace greatest", x.trace(Integer.MAX_VALUE), NONE);
        Check.tell(x, "o0,1,1,0,0;");
        check.due("a new orchard leaves the trace", x.trace(0), 13);
    }
}
