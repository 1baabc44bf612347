/** The edges of punters and days: PRICES, TOLD, DAYS. A sentence, a test. */
public final class EdgePuntersTest extends Checks {
    private static final int MOST_DAYS = 40;
    private static final int DRAWS = 41;

    public static void main(String[] args) {
        pricesAreSix();
        takesGladlyOrNot();
        gladlyIfMore();
        toldWhichFact();
        toldHowManyAndTheFirst();
        toldNothingBesides();
        toldNone();
        toldNo();
        toldFactByWhichNothingFits();
        seedsAndTimes();
        nextDraw();
        seedAtFirstOnly();
        trueOneInOrder();
        daysTillSettled();
        daysWhenSettledAtFirst();
        fortyDaysAtMost();
        daysInTheMean();
        daysNo();
        finish("EdgePuntersTest");
    }

    private static void told(String what, PastBets x, int many, int first) {
        due(what + ", how many", x.told(0), many);
        due(what + ", the first", x.told(1), first);
    }

    private static void pricesAreSix() {
        sentence("PRICES 0 .. 5, as they come:");
        PastBets x = new PastBets();
        for (int k = 1; k <= 5; k++) {
            due("price " + k, x.price(0, 0, 0, 0, 0), k);
        }
        told("all five are so", x, 15, 0);
        due("the sixth", x.price(0, 6, 6, 1, 1), 6);
        told("it counts too", x, 1, 13);
        long before = x.digest();
        due("a seventh", x.price(0, 0, 0, 0, 1), FULL);
        due("it changes nothing", x.digest(), before);
        told("it does not count", x, 1, 13);
    }

    private static void takesGladlyOrNot() {
        sentence("a punter takes a CLAIM at ODDS of x (0 .. 99) to one gladly (1), or not (0):");
        PastBets x = new PastBets();
        due("x -1", x.price(0, 0, 0, -1, 0), BAD);
        due("x 100", x.price(0, 0, 0, 100, 0), BAD);
        due("takes -1", x.price(0, 0, 0, 1, -1), BAD);
        due("takes 2", x.price(0, 0, 0, 1, 2), BAD);
        due("none has come", x.count(3), 0);
        due("x 0, not", x.price(0, 0, 0, 0, 0), 1);
        due("x 99, gladly", x.price(0, 0, 0, 99, 1), 2);
        told("gladly at 99 unless it was not", x, 14, 1);
    }

    /** Fact 0 was so r of ten times; one price on it. */
    private static PastBets priced(int r, int odds, int takes) {
        PastBets x = new PastBets();
        x.find(0, 1, r);
        x.price(0, 0, 0, odds, takes);
        return x;
    }

    private static void gladlyIfMore() {
        sentence("gladly, if CHANCE times x is more than the rest of 1.");
        int[][] even = {{5, 1}, {2, 4}, {1, 9}};
        for (int[] pair : even) {
            int r = pair[0];
            int odds = pair[1];
            told("even is not more, r " + r, priced(r, odds, 1), 1, 1);
            told("even is not gladly, r " + r, priced(r, odds, 0), 14, 0);
            told("one more is more, r " + r, priced(r, odds + 1, 1), 14, 1);
        }
        told("sure, at odds of 0: nothing is not more than nothing", priced(10, 0, 1), 0, NONE);
        told("sure, at odds of 0: not gladly", priced(10, 0, 0), 14, 1);
        told("sure, at odds of 1", priced(10, 1, 1), 14, 1);
        told("never, at odds of 99", priced(0, 99, 1), 0, NONE);
        told("never, at odds of 99: not gladly", priced(0, 99, 0), 14, 0);
    }

    private static void toldWhichFact() {
        sentence("(7 FACTS by so, then by not so: 0 .. 13: 2 a, and 1 if it was so)");
        for (int fact = 0; fact < 7; fact++) {
            PastBets x = new PastBets();
            x.price(0, fact, 0, 1, 1);
            told("fact " + fact + " was so", x, 1, 2 * fact + 1);
            x.forget();
            x.price(1, fact, 0, 1, 1);
            told("fact " + fact + " was not", x, 1, 2 * fact);
        }
    }

    private static void toldHowManyAndTheFirst() {
        sentence("makes all PRICES so: how many such; the first;");
        PastBets x = new PastBets();
        told("without prices, all do", x, 15, 0);
        x.price(0, 3, 0, 2, 1);
        told("all but one", x, 14, 0);
        x.price(0, 0, 0, 2, 1);
        told("all but two", x, 13, 1);
        x.price(0, 0, 0, 1, 1);
        told("all prices, not one", x, 1, 1);
        PastBets known = new PastBets();
        known.find(1, 1, 10);
        known.price(2, 0, 1, 1, 1);
        told("besides all finds", known, 1, 1);
        PastBets second = new PastBets();
        second.price(2, 0, 6, 2, 1);
        told("of both the second is needed as the first", second, 2, 1);
        second.find(0, 1, 10);
        told("the first is known", second, 13, 1);
        second.price(5, 0, 6, 1, 1);
        told("the second was not, but for the first price", second, 0, NONE);
    }

    private static void toldNothingBesides() {
        sentence("14 stands for nothing besides (last);");
        PastBets x = new PastBets();
        for (int fact = 1; fact < 7; fact++) {
            x.rule(3, 0, fact);
        }
        x.price(0, 0, 0, 2, 1);
        x.price(1, 0, 0, 2, 1);
        told("alone", x, 1, 14);
        x.forget();
        x.price(0, 6, 0, 2, 1);
        told("behind a fact that was so", x, 8, 1);
    }

    private static void toldNone() {
        sentence("nothing besides (last); none.");
        PastBets x = new PastBets();
        x.price(0, 0, 0, 1, 1);
        x.price(0, 0, 0, 1, 0);
        told("the same price, gladly and not", x, 0, NONE);
        refused("NONE is no refusal", x, 0, 0, 0);
    }

    private static void toldNo() {
        sentence("none. NO: nothing FITS");
        PastBets x = nothingFits();
        told("without prices", x, NO, NO);
        x.price(0, 0, 0, 1, 1);
        told("with one", x, NO, NO);
        refused("each is refused", x, 0, 4, 0);
    }

    private static void toldFactByWhichNothingFits() {
        sentence("(a FACT by which nothing FITS makes nothing so)");
        told("no fact was so", knownPast(0), 8, 0);
        told("all facts were so", knownPast(127), 8, 1);
        PastBets x = new PastBets();
        x.rule(1, 0, 0);
        told("fact 0 was not, by a law", x, 14, 0);
        told("no fact was so, by laws", onlyPastZero(), 8, 0);
        x.price(0, 0, 0, 99, 0);
        told("not gladly at 99 by what can not be", x, 14, 0);
    }

    private static long next(long x) {
        return (x * 1103515245L + 12345L) % 2147483648L;
    }

    /** On which day a fact is drawn first, behind the draw of the true past; 0, if not in forty. */
    private static int dayOf(int seed, int fact) {
        long x = next(seed);
        for (int day = 1; day <= MOST_DAYS; day++) {
            x = next(x);
            if (x / 65536 % 7 == fact) {
                return day;
            }
        }
        return 0;
    }

    private static void days(String what, PastBets x, int seed, int n, int fact, long above, long below) {
        due(what, x.days(seed, n, 0, fact, fact), 1);
        fraction(what + ", seed " + seed, x, above, below);
    }

    private static void seedsAndTimes() {
        sentence("DAYS by a SEED (0 .. 999999), n (1 .. 30) times:");
        PastBets x = new PastBets();
        due("seed -1", x.days(-1, 1, 0, 0, 0), BAD);
        due("seed 1000000", x.days(1000000, 1, 0, 0, 0), BAD);
        due("n 0", x.days(1, 0, 0, 0, 0), BAD);
        due("n 31", x.days(1, 31, 0, 0, 0), BAD);
        fraction("THE FRACTION stays", x, 0, 1);
        due("the least seed", x.days(0, 1, 0, 0, 0), 1);
        due("the greatest seed", x.days(999999, 1, 0, 0, 0), 1);
        due("the most times", x.days(0, 30, 0, 0, 0), 1);
        refused("four", x, 4, 0, 0);
    }

    private static void nextDraw() {
        sentence("X becomes X times 1103515245 and 12345, by 2147483648 what is left over;");
        PastBets x = new PastBets();
        // from 0: 12345; 1406932606; 654583775; 1449466924; 229283573; 1109335178; by 65536: 0 21468 9988 22117 3498 16927
        days("by hand", x, 0, 1, 6, 1, 1);
        days("by hand", x, 0, 1, 4, 3, 1);
        days("by hand", x, 0, 1, 5, 4, 1);
        days("by hand", x, 0, 1, 1, 5, 1);
        int[] seeds = {1, 2, 65535, 65536, 123456, 999998, 999999};
        for (int seed : seeds) {
            for (int fact = 0; fact < 7; fact++) {
                int day = dayOf(seed, fact);
                days("fact " + fact, x, seed, 1, fact, day == 0 ? MOST_DAYS : day, 1);
            }
        }
    }

    private static void seedAtFirstOnly() {
        sentence("X is SEED at first; each time PASTS are those that WEIGH more than 0,");
        PastBets x = new PastBets();
        // from seed 0 fact 4 comes on day 3; the true past takes a draw; then 1 1 1 5 3 4: day 6
        days("once", x, 0, 1, 4, 3, 1);
        days("twice: X goes on", x, 0, 2, 4, 9, 2);
        days("each call begins with its seed again", x, 0, 1, 4, 3, 1);
    }

    private static void trueOneInOrder() {
        sentence("X by 65536 (cut), by how many there are left over, is its place;");
        for (int seed = 0; seed < 60; seed++) {
            PastBets x = new PastBets();
            for (int fact = 2; fact < 7; fact++) {
                x.find(fact, 0, 10);
            }
            int first = dayOf(seed, 0);
            int second = dayOf(seed, 1);
            if (first > 0 && second > 0) {
                int truth = (int) (next(seed) / 65536 % 4);
                due("both", x.days(seed, 1, 2, 0, 1), 1);
                fraction("of 0, 1, 2 and 3, seed " + seed, x, daysOfBoth(truth, first, second), 1);
                x.rule(2, 0, 1);
                truth = 1 + (int) (next(seed) / 65536 % 3);
                due("both", x.days(seed, 1, 2, 0, 1), 1);
                fraction("of 1, 2 and 3, seed " + seed, x, daysOfBoth(truth, first, second), 1);
            }
        }
    }

    /** That both were: one that was not so settles it; if both were, both must be found. */
    private static int daysOfBoth(int truth, int first, int second) {
        switch (truth) {
            case 0:
                return Math.min(first, second);
            case 1:
                return second;
            case 2:
                return first;
            default:
                return Math.max(first, second);
        }
    }

    private static void daysTillSettled() {
        sentence("then each day a FACT by one more draw (by 7 left over) is found as it was, till a CLAIM is SETTLED");
        PastBets x = new PastBets();
        // from seed 0 the true past is 0, and the facts are 6 6 4 5 1: a fact that is drawn again is a day too
        due("neither", x.days(0, 1, 4, 6, 4), 1);
        fraction("both facts are needed, if none was so", x, 3, 1);
        x.days(0, 1, 2, 6, 4);
        fraction("one fact is enough, if it was not so", x, 1, 1);
        x.rule(3, 6, 1);
        x.days(0, 1, 0, 1, 1);
        fraction("by a law the other fact tells it", x, 1, 1);
    }

    private static void daysWhenSettledAtFirst() {
        sentence("(40 days at most): how many days, in the mean: THE FRACTION.");
        PastBets x = new PastBets();
        due("a claim that never holds", x.days(5, 30, 5, 2, 2), 1);
        fraction("no day is needed", x, 0, 1);
        PastBets known = knownPast(127);
        known.chance(0, 0, 0);
        known.days(999999, 30, 2, 0, 6);
        fraction("one past alone: no day is needed", known, 0, 1);
    }

    private static void fortyDaysAtMost() {
        sentence("(40 days at most)");
        PastBets x = new PastBets();
        int seed = 0;
        while (dayOf(seed, 3) != 0) {
            seed++;
        }
        days("not found in forty days", x, seed, 1, 3, MOST_DAYS, 1);
        long later = seed;
        for (int draw = 0; draw < DRAWS; draw++) {
            later = next(later);
        }
        int day = 1;
        for (later = next(next(later)); later / 65536 % 7 != 3; later = next(later)) {
            day++;
        }
        must("the next time is told by this test", day < MOST_DAYS);
        days("the next time goes on behind 41 draws", x, seed, 2, 3, (MOST_DAYS + day) % 2 == 0 ? (MOST_DAYS + day) / 2
            : MOST_DAYS + day, (MOST_DAYS + day) % 2 == 0 ? 1 : 2);
        seed = 0;
        while (dayOf(seed, 3) != MOST_DAYS) {
            seed++;
        }
        days("found on the fortieth", x, seed, 1, 3, MOST_DAYS, 1);
        seed = 0;
        while (dayOf(seed, 3) != MOST_DAYS - 1) {
            seed++;
        }
        days("found on the day ahead of it", x, seed, 1, 3, MOST_DAYS - 1, 1);
    }

    private static void daysInTheMean() {
        sentence("how many days, in the mean: THE FRACTION.");
        PastBets x = new PastBets();
        long at = 7;
        long all = 0;
        for (int time = 1; time <= 30; time++) {
            at = next(next(at));
            int day = 1;
            while (at / 65536 % 7 != 2 && day < MOST_DAYS) {
                at = next(at);
                day++;
            }
            all += day;
            due("n " + time, x.days(7, time, 0, 2, 2), 1);
            due("n " + time, x.part(0) * time, all * x.part(1));
            must("it is no more than n below", x.part(1) >= 1 && time % x.part(1) == 0);
        }
    }

    private static void daysNo() {
        sentence("in the mean: THE FRACTION. NO: nothing FITS.");
        PastBets x = nothingFits();
        due("days", x.days(0, 1, 0, 0, 0), NO);
        due("a claim that never holds", x.days(0, 1, 5, 0, 0), NO);
        fraction("THE FRACTION stays", x, 0, 1);
        refused("both", x, 0, 2, 0);
    }
}
