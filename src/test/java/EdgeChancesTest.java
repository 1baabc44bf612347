/** The edges of what may have been and of chances: POSSIBLE, HEAVIEST, SETTLED, CHANCE, IF FOUND. A sentence, a test. */
public final class EdgeChancesTest extends Checks {
    private static final long NINE_TO_TEN = 3486784401L;

    public static void main(String[] args) {
        nothingIsChanged();
        possibleHowManyAndWhich();
        heaviestMost();
        heaviestOfLikeOnes();
        heaviestNone();
        settledInAll();
        settledInNone();
        settledInSome();
        settledNone();
        chanceByAll();
        ifFoundOneMore();
        ifFoundBehindTen();
        chanceNo();
        ifFoundNo();
        fractionAtFirst();
        fractionLowest();
        finish("EdgeChancesTest");
    }

    /** Ten finds, each nine of ten times true, of fact 0. */
    private static PastBets nearlySure() {
        PastBets x = new PastBets();
        for (int k = 0; k < 10; k++) {
            x.find(0, 1, 9);
        }
        return x;
    }

    /** Facts 1 to 6 are as fact 0: the pasts 0 and 127 alone are possible. */
    private static PastBets allAlike() {
        PastBets x = new PastBets();
        for (int fact = 1; fact < 7; fact++) {
            x.rule(3, 0, fact);
        }
        return x;
    }

    private static void nothingIsChanged() {
        sentence("(Nothing is changed by these.)");
        PastBets x = someOfAll();
        long before = x.digest();
        x.possible(NONE);
        x.possible(3);
        x.weighs(127);
        x.heaviest();
        x.holds(5, 0, 1, 1);
        x.settled(3, 0, 1);
        x.book(5);
        x.worst(0);
        x.worst(1);
        x.sure(0);
        x.sure(1);
        x.dig(0);
        x.doped();
        x.told(0);
        x.told(1);
        due("nor is THE FRACTION by those that do not answer it", x.digest(), before);
        x.ifFound(0, 0, 0, 1, 1, 9);
        x.mean();
        x.worth(0, 0);
        x.days(77, 5, 3, 0, 4);
        x.chance(2, 0, 5);
        due("but THE FRACTION by those that do", x.digest(), before);
        due("what may be undone stays", x.undo(), 1);
        due("what may be undone stays", x.weighs(19), 6);
        x.from(0);
        due("IMAGES stay", x.digest(), before);
        refused("none was refused", x, 0, 0, 0);
    }

    private static void possibleHowManyAndWhich() {
        sentence("POSSIBLE: how many PASTS; the i-th (rising).");
        PastBets x = new PastBets();
        due("all", x.possible(NONE), 128);
        for (int i = 0; i < 128; i++) {
            due("the " + i + "-th of all", x.possible(i), i);
        }
        due("there is no such place", x.possible(128), -5);
        x.rule(2, 0, 0);
        x.rule(2, 6, 6);
        x.find(1, 1, 10);
        due("some, whatever the finds", x.possible(NONE), 32);
        for (int i = 0; i < 32; i++) {
            due("the " + i + "-th of some", x.possible(i), 65 + 2 * i);
        }
        due("behind the last", x.possible(32), -5);
        x.rule(1, 0, 6);
        due("none", x.possible(NONE), 0);
        due("the first of none", x.possible(0), -5);
    }

    private static void heaviestMost() {
        sentence("HEAVIEST: the PAST that WEIGHS most;");
        PastBets x = nearlySure();
        due("weights past an int", x.weighs(1), NINE_TO_TEN);
        due("the heaviest of them", x.heaviest(), 1);
        due("the last past", knownPast(127).heaviest(), 127);
        x.rule(1, 0, 0);
        due("the heaviest of those that are possible", x.heaviest(), 0);
    }

    private static void heaviestOfLikeOnes() {
        sentence("of like ones the least; none: nothing FITS. SETTLED");
        PastBets x = new PastBets();
        due("all weigh the same", x.heaviest(), 0);
        x.find(6, 1, 9);
        x.find(0, 1, 5);
        due("64 and 65 weigh the same", x.heaviest(), 64);
        x.rule(2, 0, 1);
        due("65, 66 and 67 weigh the same", x.heaviest(), 65);
    }

    private static void heaviestNone() {
        sentence("none: nothing FITS.");
        PastBets x = nothingFits();
        due("none", x.heaviest(), NONE);
        refused("NONE is no refusal", x, 0, 0, 0);
        x.drop(1);
        due("something fits again", x.heaviest(), 1);
    }

    private static void settledInAll() {
        sentence("SETTLED: a CLAIM holds in all PASTS that WEIGH more than 0 (1)");
        PastBets x = new PastBets();
        x.find(6, 1, 10);
        due("those that are possible and weigh nothing do not count", x.settled(0, 6, 6), 1);
        x.rule(0, 6, 0);
        due("nor those that are not possible", x.settled(2, 6, 0), 1);
        due("one past alone", knownPast(127).settled(2, 0, 6), 1);
    }

    private static void settledInNone() {
        sentence("in none (0)");
        PastBets x = new PastBets();
        due("without finds", x.settled(5, 3, 3), 0);
        x.find(6, 1, 0);
        due("those that are possible and weigh nothing do not count", x.settled(0, 6, 6), 0);
        due("one past alone", knownPast(127).settled(4, 0, 6), 0);
    }

    private static void settledInSome() {
        sentence("in some (2)");
        PastBets x = new PastBets();
        due("in half", x.settled(0, 6, 6), 2);
        due("in the last of two", allAlike().settled(0, 6, 6), 2);
        due("in the first of two", allAlike().settled(1, 6, 6), 2);
        PastBets y = nearlySure();
        due("though it is nearly sure", y.settled(0, 0, 0), 2);
    }

    private static void settledNone() {
        sentence("in some (2); none: nothing FITS.");
        PastBets x = nothingFits();
        for (int kind = 0; kind < 6; kind++) {
            due("kind " + kind, x.settled(kind, 0, 0), NONE);
        }
        refused("NONE is no refusal", x, 0, 0, 0);
    }

    private static void chanceByAll() {
        sentence("CHANCE: what those WEIGH in which a CLAIM holds, by all together;");
        PastBets x = new PastBets();
        due("never", x.chance(5, 0, 0), 1);
        fraction("never", x, 0, 1);
        PastBets sure = knownPast(127);
        due("always", sure.chance(2, 0, 6), 1);
        fraction("always", sure, 1, 1);
        PastBets near = nearlySure();
        due("nearly always", near.chance(0, 0, 0), 1);
        fraction("nearly always", near, NINE_TO_TEN, NINE_TO_TEN + 1);
        near.chance(1, 0, 0);
        fraction("nearly never", near, 1, NINE_TO_TEN + 1);
        x.rule(2, 0, 6);
        x.chance(2, 0, 6);
        fraction("of three that are possible, one", x, 1, 3);
    }

    private static void ifFoundOneMore() {
        sentence("IF FOUND: the same, were there one FIND more (a, v, r);");
        for (int fact = 0; fact < 7; fact++) {
            for (int r = 0; r <= 20; r++) {
                ifFoundAsFound(fact, r % 2, r / 2);
            }
        }
        PastBets x = new PastBets();
        x.ifFound(0, 6, 6, 6, 1, 0);
        fraction("none such is true", x, 0, 1);
        x.ifFound(0, 6, 6, 6, 0, 0);
        fraction("that it was not is never true", x, 1, 1);
        x.ifFound(4, 0, 6, 6, 0, 9);
        fraction("neither was", x, 9, 20);
        due("no find has come", x.count(1), 0);
        due("none may be undone", x.count(4), 0);
    }

    private static void ifFoundAsFound(int fact, int v, int r) {
        PastBets x = new PastBets();
        x.rule(0, 0, 3);
        x.find(6, 1, 7);
        due("found of " + fact, x.ifFound(3, 0, 6, fact, v, r), 1);
        long above = x.part(0);
        long below = x.part(1);
        x.find(fact, v, r);
        x.chance(3, 0, 6);
        fraction("as if it had been found, r " + r, x, above, below);
    }

    private static void ifFoundBehindTen() {
        sentence("were there one FIND more");
        PastBets x = new PastBets();
        for (int k = 0; k < 10; k++) {
            x.find(0, 1, 10);
        }
        due("an eleventh may be thought of", x.ifFound(2, 0, 1, 1, 1, 9), 1);
        fraction("an eleventh may be thought of", x, 9, 10);
        refused("it is not FULL", x, 0, 0, 0);
    }

    private static void chanceNo() {
        sentence("(a, v, r); NO: nothing FITS.");
        PastBets x = nothingFits();
        due("chance", x.chance(0, 1, 1), NO);
        due("if found", x.ifFound(0, 1, 1, 2, 1, 5), NO);
        fraction("THE FRACTION stays", x, 0, 1);
        refused("both are refused", x, 0, 2, 0);
    }

    private static void ifFoundNo() {
        sentence("NO: also if nothing would FIT.");
        PastBets x = new PastBets();
        x.find(4, 1, 10);
        x.chance(0, 0, 0);
        due("found otherwise, surely", x.ifFound(0, 0, 0, 4, 0, 10), NO);
        due("found so, never true", x.ifFound(0, 0, 0, 4, 1, 0), NO);
        fraction("THE FRACTION stays", x, 1, 2);
        refused("both are refused", x, 0, 2, 0);
        due("nearly surely is enough", x.ifFound(0, 4, 4, 4, 0, 9), 1);
        fraction("nearly surely is enough", x, 1, 1);
        PastBets least = onlyPastZero();
        due("the least that may weigh is enough", least.ifFound(1, 0, 0, 6, 0, 1), 1);
        fraction("the least that may weigh is enough", least, 1, 1);
        x.rule(3, 4, 5);
        due("found against a law", x.ifFound(0, 0, 0, 5, 0, 10), NO);
        due("something fits all the same", x.chance(0, 0, 0), 1);
    }

    private static void fractionAtFirst() {
        sentence("THE FRACTION is 0 by 1 at first;");
        fraction("at first", new PastBets(), 0, 1);
    }

    private static void fractionLowest() {
        sentence("lowest terms, below above 0.");
        PastBets x = new PastBets();
        x.find(0, 1, 5);
        x.chance(0, 0, 0);
        fraction("a half", x, 1, 2);
        x.chance(5, 6, 6);
        fraction("nothing is 0 by 1", x, 0, 1);
        x.chance(3, 0, 0);
        x.bet(0, 0, 0, 6, 3);
        x.bet(1, 1, 0, 9, 0);
        x.mean();
        fraction("below 0 is what stands above", x, -3, 2);
        x.off();
        x.mean();
        fraction("nothing again", x, 0, 1);
    }
}
