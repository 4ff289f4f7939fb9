import java.util.List;
import java.util.function.Consumer;
import java.util.function.ToLongFunction;

/** Two walls that were told the same; a call that is made on one alone must leave it as the other is. */
final class Twins {
    private final Check check;
    private final Consumer<OrchardWall> telling;

    Twins(Check check, Consumer<OrchardWall> telling) {
        this.check = check;
        this.telling = telling;
    }

    private OrchardWall born() {
        OrchardWall wall = new OrchardWall();
        telling.accept(wall);
        return wall;
    }

    /** A refused call: status() is the finding's number, or stays if there is none. */
    void refused(String name, ToLongFunction<OrchardWall> call, long answer) {
        boolean isFound = answer <= -1000011 && answer >= -1000015;
        OrchardWall one = born();
        long status = isFound ? -1000010 - answer : one.status();
        unchanged(name, one, call, answer, status);
    }

    /** A call that only foretells, or asks: it is not refused; status() stays, or is 0 if the call has a row. */
    void foretold(String name, ToLongFunction<OrchardWall> call, boolean hasRow) {
        OrchardWall one = born();
        long answer = call.applyAsLong(born());
        check.holds(name + " is not refused", answer > -1000001);
        unchanged(name, one, call, answer, hasRow ? 0 : one.status());
    }

    private void unchanged(String name, OrchardWall one, ToLongFunction<OrchardWall> call, long answer, long status) {
        check.due(name, call.applyAsLong(one), answer);
        check.due(name + ": status", one.status(), status);
        List<String> seen = Look.at(one);
        List<String> due = Look.at(born());
        check.due(name + ": how much is seen", seen.size(), due.size());
        for (int i = 0; i < Math.min(seen.size(), due.size()); i++) {
            if (!seen.get(i).equals(due.get(i))) {
                check.holds(name + " changed " + due.get(i) + " into " + seen.get(i), false);
                return;
            }
        }
    }
}
