import java.math.BigInteger;
import java.util.Random;

/** Promises 23 and 24: on which days to go; and, for many rows, that it is all one where Pratt sits. */
public final class DaysTest {
    private static final int BAD = OrchardWall.BAD;
    private static final int NULL = -1000011, PLACE = -1000012;
    private static final Check check = new Check();

    public static void main(String[] args) {
        byHand();
        theGreatestNumbers();
        manyRows();
        refusals();
        check.end();
    }

    private static void value(OrchardWall x, int l, int set, long above, long below) {
        check.due("set", x.days(0, 0, l), set);
        check.due("above", x.daysValue(0, 0, l, -1, 0), above);
        check.due("below", x.daysValue(0, 0, l, -1, 1), below);
    }

    private static void byHand() {
        OrchardWall x = new OrchardWall();
        Check.fill(x, 0, 0, 0, 0, 0, 0, 0);
        value(x, 1, 63, -1, 6);
        Check.fill(x, 0, 20, 0, 0, 0, 0, 1);
        value(x, 1, 33, 19, 23);
        check.due("odds above", x.daysValue(0, 0, 1, 0, 0), 2);
        check.due("odds below", x.daysValue(0, 0, 1, 0, 1), 23);
        check.due("not in the set, above", x.daysValue(0, 0, 1, 3, 0), 0);
        check.due("not in the set, below", x.daysValue(0, 0, 1, 3, 1), 1);
        // Days 0 and 1 alone: 1 by (1/2 and 1/2), less 1: 0.
        Check.fill(x, 0, 1, 1, 0, 0, 0, 0);
        value(x, 1, 3, 0, 1);
        // Stakes 20 and 4 give 20/6 less 2; a third of 2 would give 2 by (1/20, 1/4, 1/2) less 2, which is less.
        Check.fill(x, 0, 18, 2, 0, 0, 0, 0);
        value(x, 2, 3, 4, 3);
        // Stakes 4, 4 and 2: whether the third day goes along or not is all one; of both the least set.
        Check.fill(x, 0, 0, 2, 0, 2, 0, 0);
        value(x, 2, 10, 0, 1);
        Check.fill(x, 0, 3, 3, 1, 0, 0, 0);
        value(x, 1, 3, 1, 1);
        // From i on.
        Check.fill(x, 1, 99, -1, 20, 0, 0, 0, 0, 1, 77);
        check.due("from 2 on", x.days(1, 2, 1), 33);
    }

    private static void theGreatestNumbers() {
        OrchardWall x = new OrchardWall();
        Check.fill(x, 0, 20, 20, 20, 20, 20, 20);
        value(x, 20, 63, 40, 3);
        Check.fill(x, 0, 20, 19, 18, 17, 16, 15);
        checkRow(x, new int[] {20, 19, 18, 17, 16, 15}, 20);
        Check.fill(x, 0, 19, 17, 11, 9, 20, 13);
        checkRow(x, new int[] {19, 17, 11, 9, 20, 13}, 20);
    }

    private static void manyRows() {
        Random random = new Random(20);
        for (int turn = 0; turn < 1500; turn++) {
            OrchardWall x = new OrchardWall();
            int most = 1 + random.nextInt(20);
            int[] gains = new int[6];
            for (int day = 0; day < 6; day++) {
                gains[day] = random.nextInt(most + 1);
            }
            Check.fill(x, 0, gains);
            checkRow(x, gains, 1 + random.nextInt(random.nextBoolean() ? 20 : 3));
        }
    }

    /** By fractions of great numbers: the value of each set, its odds reckoned from what is all one. */
    private static void checkRow(OrchardWall x, int[] gains, int l) {
        int bestSet = 0;
        Fraction best = null;
        for (int set = 1; set < 64; set++) {
            Fraction value = valueOf(gains, l, set);
            if (best == null || value.compareTo(best) > 0) {
                best = value;
                bestSet = set;
            }
        }
        check.due("set", x.days(0, 0, l), bestSet);
        check.due("above", x.daysValue(0, 0, l, -1, 0), best.above.longValueExact());
        check.due("below", x.daysValue(0, 0, l, -1, 1), best.below.longValueExact());
        Fraction sum = new Fraction(0, 1);
        for (int day = 0; day < 6; day++) {
            Fraction odds = oddsOf(gains, l, bestSet, day);
            check.due("odds above " + day, x.daysValue(0, 0, l, day, 0), odds.above.longValueExact());
            check.due("odds below " + day, x.daysValue(0, 0, l, day, 1), odds.below.longValueExact());
            sum = sum.plus(odds);
        }
        check.due("odds together", sum.compareTo(new Fraction(1, 1)), 0);
        for (int day = 0; day < 6; day++) {
            if ((bestSet >> day & 1) != 0) {
                check.due("all one", meanIfHeSits(gains, l, bestSet, day).compareTo(best), 0);
            }
        }
    }

    private static Fraction valueOf(int[] gains, int l, int set) {
        return meanIfHeSits(gains, l, set, Integer.numberOfTrailingZeros(set));
    }

    private static Fraction meanIfHeSits(int[] gains, int l, int set, int sits) {
        Fraction mean = new Fraction(0, 1);
        for (int day = 0; day < 6; day++) {
            int got = day == sits ? -l : gains[day];
            mean = mean.plus(oddsOf(gains, l, set, day).times(new Fraction(got, 1)));
        }
        return mean;
    }

    private static Fraction oddsOf(int[] gains, int l, int set, int day) {
        if ((set >> day & 1) == 0) {
            return new Fraction(0, 1);
        }
        Fraction parts = new Fraction(0, 1);
        for (int other = 0; other < 6; other++) {
            if ((set >> other & 1) != 0) {
                parts = parts.plus(new Fraction(gains[day] + l, gains[other] + l));
            }
        }
        return new Fraction(parts.below, parts.above);
    }

    private static void refusals() {
        OrchardWall x = new OrchardWall();
        Check.fill(x, 0, 0, 20, 0, 0, 0, 0, 21);
        check.due("row 8", x.days(8, 0, 1), BAD);
        check.due("row -1", x.days(-1, 0, 1), BAD);
        check.due("l 0", x.days(0, 0, 0), BAD);
        check.due("l 21", x.days(1, 0, 21), BAD);
        check.due("missing", x.days(1, -1, 1), NULL);
        check.due("place -1", x.days(0, -1, 1), PLACE);
        check.due("place 2", x.days(0, 2, 1), PLACE);
        check.due("place greatest", x.days(0, Integer.MAX_VALUE, 1), PLACE);
        check.due("item 21", x.days(0, 1, 1), BAD);
        x.set(0, 5, -1);
        check.due("item -1", x.days(0, 0, 1), BAD);
        check.due("value, row", x.daysValue(8, 0, 1, 0, 0), BAD);
        check.due("value, l", x.daysValue(0, 0, 21, 0, 0), BAD);
        check.due("value, day -2", x.daysValue(1, 0, 1, -2, 0), BAD);
        check.due("value, day 6", x.daysValue(1, 0, 1, 6, 0), BAD);
        check.due("value, what 2", x.daysValue(1, 0, 1, 0, 2), BAD);
        check.due("value, what -1", x.daysValue(1, 0, 1, 0, -1), BAD);
        check.due("value, missing", x.daysValue(1, 0, 1, -1, 0), NULL);
        check.due("value, place", x.daysValue(0, 2, 1, -1, 0), PLACE);
        check.due("value, item", x.daysValue(0, 0, 1, -1, 0), BAD);
    }

    private static final class Fraction implements Comparable<Fraction> {
        final BigInteger above;
        final BigInteger below;

        Fraction(long above, long below) {
            this(BigInteger.valueOf(above), BigInteger.valueOf(below));
        }

        Fraction(BigInteger above, BigInteger below) {
            BigInteger common = above.gcd(below);
            this.above = above.divide(common);
            this.below = below.divide(common);
        }

        Fraction plus(Fraction other) {
            return new Fraction(above.multiply(other.below).add(other.above.multiply(below)), below.multiply(other.below));
        }

        Fraction times(Fraction other) {
            return new Fraction(above.multiply(other.above), below.multiply(other.below));
        }

        @Override
        public int compareTo(Fraction other) {
            return above.multiply(other.below).compareTo(other.above.multiply(below));
        }
    }
}
