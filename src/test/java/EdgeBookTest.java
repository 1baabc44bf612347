/** The edges of bets: THE BOOK, WORST, MEAN, SURE, WORTH, BEST DIG, DOPED. A sentence, a test. */
public final class EdgeBookTest extends Checks {
    private static final int MOST_PAID = 8 * 99 * 99;

    public static void main(String[] args) {
        bookInAPast();
        worstOfThoseThatWeigh();
        worstFirst();
        meanByWeights();
        bookNo();
        sureMoreThanNothing();
        sureWhereItWeighs();
        sureMost();
        sureFewer();
        sureLeastBits();
        sureNone();
        digAsItWas();
        worthJustWhereItGains();
        worthWithout();
        bestDigMost();
        bestDigFirst();
        digNo();
        dopedFewest();
        dopedLeast();
        dopedNone();
        finish("EdgeBookTest");
    }

    /** Eight bets, the greatest that there may be, on fact 0. */
    private static PastBets greatest() {
        PastBets x = new PastBets();
        for (int k = 0; k < 8; k++) {
            x.bet(0, 0, 0, 99, 99);
        }
        return x;
    }

    private static void bookInAPast() {
        sentence("THE BOOK in a PAST: what the bookmaker has of all BETS then (below 0: pays).");
        PastBets x = greatest();
        due("all hold", x.book(127), -MOST_PAID);
        due("none holds", x.book(126), 8 * 99);
        x.rule(1, 0, 0);
        due("also in a past that is not possible", x.book(127), -MOST_PAID);
        due("also where nothing fits", nothingFits().book(0), 0);
        x.off();
        due("without bets", x.book(127), 0);
        x.bet(0, 0, 0, 10, 2);
        x.bet(0, 1, 1, 20, 1);
        due("one has, one pays: even", x.book(1), 0);
    }

    private static void worstOfThoseThatWeigh() {
        sentence("WORST: the least of all PASTS that WEIGH more than 0;");
        PastBets x = greatest();
        due("the least that there may be", x.worst(0), -MOST_PAID);
        x.find(0, 1, 0);
        due("what weighs nothing does not count", x.worst(0), 8 * 99);
        PastBets lawful = greatest();
        lawful.rule(1, 0, 6);
        lawful.rule(2, 6, 6);
        due("nor what is not possible", lawful.worst(0), 8 * 99);
        due("in the first that is", lawful.worst(1), 64);
        PastBets nearly = greatest();
        for (int k = 0; k < 10; k++) {
            nearly.find(0, 1, 1);
        }
        due("what weighs least counts", nearly.worst(0), -MOST_PAID);
    }

    private static void worstFirst() {
        sentence("in which (the first);");
        PastBets x = new PastBets();
        due("without bets", x.worst(0), 0);
        due("without bets, in the first of all", x.worst(1), 0);
        x.find(3, 1, 10);
        due("in the first that weighs", x.worst(1), 8);
        x.bet(3, 5, 6, 4, 4);
        due("the least", x.worst(0), -16);
        due("in the first of like ones", x.worst(1), 40);
        x.find(5, 1, 0);
        due("in the first that is left", x.worst(1), 72);
    }

    private static void meanByWeights() {
        sentence("MEAN: the mean by what PASTS WEIGH: THE FRACTION (above may be below 0).");
        PastBets x = greatest();
        for (int k = 0; k < 10; k++) {
            x.find(0, 1, 9);
        }
        due("the greatest numbers", x.mean(), 1);
        fraction("the greatest numbers", x, -136695895656408L, 1743392201L);
        x.past();
        due("without bets", x.mean(), 1);
        fraction("without bets", x, 0, 1);
        x.bet(0, 0, 0, 5, 1);
        x.mean();
        fraction("even", x, 0, 1);
        x.find(0, 1, 10);
        x.mean();
        fraction("settled, below 0", x, -5, 1);
        x.past();
        x.find(0, 0, 10);
        x.bet(0, 0, 0, 5, 1);
        x.mean();
        fraction("settled, above 0", x, 5, 1);
    }

    private static void bookNo() {
        sentence("THE FRACTION (above may be below 0). NO: nothing FITS.");
        PastBets x = nothingFits();
        x.bet(0, 0, 0, 5, 1);
        due("worst, how much", x.worst(0), -99999);
        due("worst, in which", x.worst(1), -99999);
        due("mean", x.mean(), NO);
        fraction("THE FRACTION stays", x, 0, 1);
        refused("all three", x, 0, 3, 0);
    }

    private static void sure(String what, PastBets x, int set, int win) {
        due(what + ", which", x.sure(0), set);
        due(what + ", how much", x.sure(1), win);
    }

    private static void sureMoreThanNothing() {
        sentence("(more than 0 in each PAST that WEIGHS more than 0)");
        PastBets x = new PastBets();
        x.bet(0, 0, 0, 10, 1);
        x.bet(1, 0, 0, 10, 1);
        sure("nothing is not enough", x, NONE, NONE);
        x.off();
        x.bet(0, 0, 0, 10, 1);
        x.bet(1, 0, 0, 9, 2);
        sure("1 is enough", x, 0b11, 1);
        x.off();
        x.bet(3, 0, 0, 10, 9);
        sure("in each past", x, NONE, NONE);
        PastBets zero = knownPast(1);
        zero.bet(0, 0, 0, 10, 0);
        sure("odds of 0 win nothing", zero, NONE, NONE);
    }

    private static void sureWhereItWeighs() {
        sentence("would win by whatever was");
        PastBets x = new PastBets();
        x.bet(0, 0, 0, 10, 2);
        sure("it may not have been", x, NONE, NONE);
        x.find(0, 1, 9);
        sure("nearly sure is not", x, NONE, NONE);
        x.find(0, 1, 10);
        sure("a past that weighs nothing is none", x, 0b1, 20);
        x.past();
        x.bet(0, 6, 6, 10, 2);
        x.rule(2, 6, 6);
        sure("nor one that is not possible", x, 0b1, 20);
    }

    private static void sureMost() {
        sentence("the one by which the least that he wins is most;");
        PastBets x = new PastBets();
        x.bet(0, 0, 0, 10, 2);
        x.bet(1, 0, 0, 10, 2);
        x.bet(0, 0, 0, 20, 2);
        x.bet(1, 0, 0, 20, 2);
        sure("all of them", x, 0b1111, 30);
        PastBets all = greatest();
        all.find(0, 1, 10);
        sure("the most that there may be", all, 0b11111111, MOST_PAID);
        PastBets last = knownPast(0);
        for (int k = 0; k < 7; k++) {
            last.bet(0, k, k, 99, 99);
        }
        last.bet(4, 0, 6, 1, 1);
        sure("the last alone", last, 0b10000000, 1);
    }

    private static void sureFewer() {
        sentence("of like ones fewer BETS,");
        PastBets x = knownPast(1);
        x.bet(0, 0, 0, 10, 0);
        x.bet(0, 0, 0, 10, 2);
        x.bet(0, 0, 0, 10, 0);
        sure("one that adds nothing is left out", x, 0b010, 20);
        PastBets y = new PastBets();
        y.bet(1, 0, 0, 10, 1);
        y.bet(1, 0, 0, 10, 1);
        y.bet(1, 0, 0, 20, 1);
        y.bet(0, 0, 0, 10, 3);
        sure("two of more bits before three of less", y, 0b1100, 10);
    }

    private static void sureLeastBits() {
        sentence("then the least bits: which, how much;");
        PastBets x = new PastBets();
        x.bet(1, 0, 0, 2, 2);
        x.bet(1, 0, 0, 2, 2);
        x.bet(0, 0, 0, 3, 1);
        sure("the first of two like bets", x, 0b101, 1);
    }

    private static void sureNone() {
        sentence("none (also if nothing FITS).");
        PastBets x = new PastBets();
        sure("without bets", x, NONE, NONE);
        x.bet(0, 0, 0, 9, 9);
        x.bet(0, 1, 0, 9, 9);
        sure("none wins whatever was", x, NONE, NONE);
        x.find(0, 1, 10);
        sure("one does", x, 0b01, 81);
        x.find(0, 0, 10);
        sure("nothing fits", x, NONE, NONE);
        refused("NONE is no refusal", x, 0, 0, 0);
    }

    private static void worth(String what, PastBets x, int fact, long above, long below) {
        due(what, x.worth(0, fact), 1);
        fraction(what, x, above, below);
    }

    private static void digAsItWas() {
        sentence("DIG for a FACT: it would be found as it was (r 10).");
        PastBets x = new PastBets();
        x.bet(2, 0, 6, 10, 1);
        worth("the first fact", x, 0, 0, 1);
        x.off();
        x.bet(2, 0, 6, 10, 2);
        worth("the first fact", x, 0, 5, 2);
        worth("the last fact", x, 6, 5, 2);
        x.find(6, 1, 10);
        worth("what is known tells nothing", x, 6, 0, 1);
    }

    private static void worthJustWhereItGains() {
        sentence("if he takes the BET just where that gains in the mean by what was found,");
        PastBets x = new PastBets();
        x.bet(0, 0, 0, 10, 1);
        worth("only if it was so", x, 0, 5, 1);
        x.off();
        x.bet(1, 0, 0, 10, 1);
        worth("only if it was not", x, 0, 5, 1);
        x.off();
        x.bet(3, 0, 1, 10, 1);
        worth("even where it was not: no loss, no gain", x, 0, 0, 1);
        x.off();
        x.bet(5, 3, 3, 10, 99);
        worth("never", x, 3, 0, 1);
        x.past();
        for (int k = 0; k < 10; k++) {
            x.find(0, 0, 9);
        }
        x.bet(0, 0, 0, 99, 99);
        worth("the greatest numbers", x, 0, 9801, 3486784402L);
    }

    private static void worthWithout() {
        sentence("less what he gains so without any DIG (0, if he does not take it): THE FRACTION;");
        PastBets x = new PastBets();
        x.find(0, 1, 4);
        x.bet(0, 0, 0, 10, 1);
        worth("he does not take it: nothing is taken off", x, 0, 4, 1);
        x.past();
        x.find(0, 1, 6);
        x.bet(0, 0, 0, 10, 1);
        worth("he takes it", x, 0, 4, 1);
        x.past();
        x.bet(0, 0, 0, 10, 1);
        worth("it is even", x, 0, 5, 1);
        x.find(0, 1, 10);
        worth("he wins anyway", x, 0, 0, 1);
    }

    private static void bestDigMost() {
        sentence("BEST DIG: the FACT by which that is most;");
        PastBets x = new PastBets();
        for (int fact = 0; fact < 7; fact++) {
            x.bet(0, fact, 0, 10, 1);
            due("for fact " + fact, x.dig(fact), fact);
        }
        PastBets y = new PastBets();
        y.find(0, 1, 9);
        y.find(6, 1, 6);
        y.bet(2, 0, 6, 10, 1);
        due("the less sure of both", y.dig(0), 6);
        y.bet(2, 0, 5, 10, 1);
        y.find(5, 1, 10);
        y.find(5, 1, 9);
        due("the only one", y.dig(1), 0);
        PastBets first = new PastBets();
        first.find(0, 1, 6);
        first.find(6, 1, 9);
        first.bet(2, 0, 6, 10, 1);
        due("the first, though another is worth something too", first.dig(0), 0);
        y.chance(0, 0, 0);
        y.dig(0);
        fraction("THE FRACTION stays by BEST DIG", y, 9, 10);
    }

    private static void bestDigFirst() {
        sentence("of like ones the first; NO: nothing FITS.");
        PastBets x = new PastBets();
        x.bet(5, 0, 0, 10, 3);
        due("none is worth anything", x.dig(0), 0);
        x.bet(2, 6, 5, 10, 2);
        due("5 and 6 are worth the same", x.dig(1), 5);
        x.bet(0, 6, 6, 10, 1);
        x.rule(3, 6, 1);
        due("1 tells what 6 does", x.dig(2), 1);
    }

    private static void digNo() {
        sentence("the first; NO: nothing FITS.");
        PastBets x = nothingFits();
        x.bet(0, 0, 0, 10, 1);
        due("dig", x.dig(0), NO);
        due("worth", x.worth(0, 0), NO);
        fraction("THE FRACTION stays", x, 0, 1);
        refused("both", x, 0, 2, 0);
    }

    private static void dopedFewest() {
        sentence("DOPED: the fewest FINDS (bits;");
        PastBets x = new PastBets();
        due("without finds", x.doped(), 0);
        for (int k = 0; k < 9; k++) {
            x.find(0, 1, 10);
        }
        due("something fits", x.doped(), 0);
        due("the first past alone fits", onlyPastZero().doped(), 0);
        x.find(0, 0, 10);
        due("the last of ten", x.doped(), 1 << 9);
        x.past();
        x.rule(2, 6, 6);
        for (int k = 0; k < 10; k++) {
            x.find(6, k % 2, 10 * (k % 2 == 0 ? 1 : 0));
        }
        due("all ten, against a law", x.doped(), 1023);
        x.past();
        x.find(0, 1, 9);
        x.find(0, 0, 10);
        x.find(0, 1, 10);
        due("one that is nearly true may stay", x.doped(), 0b010);
    }

    private static void dopedLeast() {
        sentence("of like ones the least) without which something FITS;");
        due("either of two", nothingFits().doped(), 0b01);
        PastBets x = new PastBets();
        x.find(0, 1, 10);
        x.find(1, 1, 10);
        x.find(1, 0, 10);
        x.find(0, 0, 10);
        due("one of each two", x.doped(), 0b0011);
        x.past();
        x.find(0, 1, 10);
        x.find(1, 1, 10);
        x.find(1, 0, 10);
        x.find(1, 1, 0);
        x.find(0, 1, 0);
        due("the fewest, then the least", x.doped(), 0b00011);
    }

    private static void dopedNone() {
        sentence("none: there is none such.");
        PastBets x = new PastBets();
        x.rule(1, 0, 0);
        x.rule(2, 0, 0);
        due("laws against each other", x.doped(), NONE);
        x.find(0, 1, 10);
        due("finds do not matter", x.doped(), NONE);
        refused("NONE is no refusal", x, 0, 0, 0);
    }
}
