/** The edges that the document's Terms name: facts, pasts, laws, finds, weights, claims, bets. A sentence, a test. */
public final class EdgeTermsTest extends Checks {
    private static final int[][] PAIRS = {{0, 6}, {6, 0}, {2, 3}, {0, 0}, {6, 6}};

    /** Whether a law is kept, or a claim holds, by whether a was so, and b was. */
    private interface Told {
        boolean by(boolean a, boolean b);
    }

    public static void main(String[] args) {
        factsAreSeven();
        pastsAreBits();
        lawsAreEight();
        lawIfThen();
        lawNotBoth();
        lawOneAtLeast();
        lawAlike();
        possibleByAllLaws();
        findsAreTen();
        findsTellOfAFact();
        weighsTheProduct();
        weighsOneWithoutAny();
        weighsNothingIfNotPossible();
        nothingFitsAtAll();
        claimsOfKinds();
        claimFact();
        claimDenied();
        claimBoth();
        claimEither();
        claimNeither();
        claimAlone();
        betsAreEight();
        stakesAndOdds();
        bookmakerPaysOrHas();
        finish("EdgeTermsTest");
    }

    private static boolean wasSo(int past, int fact) {
        return (past >> fact & 1) == 1;
    }

    private static void factsAreSeven() {
        sentence("6, each was so or not.");
        for (int fact = 0; fact < 7; fact++) {
            PastBets x = new PastBets();
            due("fact " + fact + " may be found", x.find(fact, 1, 10), 0);
            due("it alone was so", x.heaviest(), 1 << fact);
            x.past();
            x.find(fact, 0, 10);
            due("fact " + fact + " was not", x.settled(0, fact, fact), 0);
        }
        PastBets x = new PastBets();
        due("fact -1", x.find(-1, 1, 5), BAD);
        due("fact 7", x.find(7, 1, 5), BAD);
        due("all pasts of seven facts", x.possible(NONE), 128);
    }

    private static void pastsAreBits() {
        sentence("A PAST (bits 0 .. 127: bit k, FACT k was so).");
        for (int fact = 0; fact < 7; fact++) {
            PastBets x = new PastBets();
            for (int past = 0; past < 128; past++) {
                due("fact " + fact + " in " + past, x.holds(0, fact, fact, past), past >> fact & 1);
            }
        }
        PastBets x = new PastBets();
        due("the least past", x.weighs(0), 1);
        due("the greatest past", x.weighs(127), 1);
        due("past -1", x.holds(0, 0, 0, -1), BAD);
        due("past 128", x.holds(0, 0, 0, 128), BAD);
    }

    private static void lawsAreEight() {
        sentence("LAWS 0 .. 7, as they come, of FACTS a, b:");
        PastBets x = new PastBets();
        for (int fact = 0; fact < 7; fact++) {
            due("law " + fact, x.rule(1, fact, fact), fact);
        }
        due("one past is left by seven", x.possible(NONE), 1);
        due("law 7", x.rule(2, 6, 6), 7);
        due("the eighth counts too", x.possible(NONE), 0);
        long before = x.digest();
        due("a ninth", x.rule(0, 0, 1), FULL);
        due("it changes nothing", x.digest(), before);
        due("there are eight", x.count(0), 8);
    }

    private static void checkLaw(int kind, Told kept) {
        for (int[] pair : PAIRS) {
            PastBets x = new PastBets();
            x.rule(kind, pair[0], pair[1]);
            int many = 0;
            for (int past = 0; past < 128; past++) {
                boolean may = kept.by(wasSo(past, pair[0]), wasSo(past, pair[1]));
                due("law of " + pair[0] + ", " + pair[1] + " in " + past, x.weighs(past), may ? 1 : 0);
                many += may ? 1 : 0;
            }
            due("how many keep the law of " + pair[0] + ", " + pair[1], x.possible(NONE), many);
        }
    }

    private static void lawIfThen() {
        sentence("0 if a was so, b was;");
        checkLaw(0, (a, b) -> !a || b);
    }

    private static void lawNotBoth() {
        sentence("1 not both were;");
        checkLaw(1, (a, b) -> !(a && b));
    }

    private static void lawOneAtLeast() {
        sentence("2 one of both was at least;");
        checkLaw(2, (a, b) -> a || b);
    }

    private static void lawAlike() {
        sentence("3 both were, or neither.");
        checkLaw(3, (a, b) -> a == b);
        PastBets x = new PastBets();
        due("there is no kind 4", x.rule(4, 0, 1), BAD);
        due("there is no kind -1", x.rule(-1, 0, 1), BAD);
    }

    private static void possibleByAllLaws() {
        sentence("A PAST is POSSIBLE, if all LAWS are kept.");
        PastBets x = new PastBets();
        due("without laws", x.possible(NONE), 128);
        x.rule(0, 0, 1);
        due("by one", x.possible(NONE), 96);
        x.rule(0, 1, 2);
        due("by two", x.possible(NONE), 64);
        x.rule(0, 1, 2);
        due("by a law told twice", x.possible(NONE), 64);
        x.rule(1, 2, 2);
        due("by three", x.possible(NONE), 16);
        x.rule(2, 0, 0);
        due("by laws that rule each other out", x.possible(NONE), 0);
    }

    private static void findsAreTen() {
        sentence("FINDS 0 .. 9, as they come:");
        PastBets x = new PastBets();
        for (int k = 0; k < 10; k++) {
            due("find " + k, x.find(6, 1, 2), k);
            due("each counts", x.weighs(64), 1L << k + 1);
        }
        long before = x.digest();
        due("an eleventh", x.find(6, 1, 2), FULL);
        due("it changes nothing", x.digest(), before);
        due("it weighs nothing", x.weighs(64), 1024);
        due("a place is free again", x.drop(9), 9);
        due("the next is the tenth", x.find(0, 0, 0), 9);
    }

    private static void findsTellOfAFact() {
        sentence("FACT a was so (1), was not (0), r (0 .. 10) of ten such are true.");
        PastBets x = new PastBets();
        due("v -1", x.find(0, -1, 5), BAD);
        due("v 2", x.find(0, 2, 5), BAD);
        due("r -1", x.find(0, 1, -1), BAD);
        due("r 11", x.find(0, 1, 11), BAD);
        due("r 0", x.find(0, 1, 0), 0);
        due("none such is true", x.settled(0, 0, 0), 0);
        x.past();
        due("r 10", x.find(0, 1, 10), 0);
        due("all such are true", x.settled(0, 0, 0), 1);
        x.past();
        x.find(0, 0, 10);
        due("it was not", x.settled(0, 0, 0), 0);
        x.past();
        x.find(0, 0, 0);
        due("that it was not is never true", x.settled(0, 0, 0), 1);
    }

    private static void weighsTheProduct() {
        sentence("of r where it was as the FIND tells, of 10 less r where not");
        for (int r = 0; r <= 10; r++) {
            for (int v = 0; v < 2; v++) {
                PastBets x = new PastBets();
                x.find(6, v, r);
                due("as told, r " + r, x.weighs(64 * v), r);
                due("not as told, r " + r, x.weighs(64 - 64 * v), 10 - r);
                x.find(0, v, 7);
                due("two as told, r " + r, x.weighs(65 * v), 7 * r);
                due("one as told, r " + r, x.weighs(v == 1 ? 1 : 64), 7 * (10 - r));
            }
        }
        PastBets x = new PastBets();
        for (int k = 0; k < 10; k++) {
            x.find(k % 7, 1, 10);
        }
        due("the most there may be, past an int", x.weighs(127), 10_000_000_000L);
        due("one find not as told", x.weighs(126), 0);
    }

    private static void weighsOneWithoutAny() {
        sentence("(1 without any)");
        PastBets x = new PastBets();
        for (int past = 0; past < 128; past++) {
            due("past " + past, x.weighs(past), 1);
        }
        x.find(0, 1, 3);
        x.drop(0);
        due("without any again", x.weighs(1), 1);
    }

    private static void weighsNothingIfNotPossible() {
        sentence("0, if it is not POSSIBLE.");
        PastBets x = new PastBets();
        x.rule(1, 0, 6);
        due("without finds", x.weighs(65), 0);
        x.find(0, 1, 10);
        x.find(6, 1, 10);
        due("though all finds tell it", x.weighs(65), 0);
        due("as for all others by the finds", x.weighs(1), 0);
    }

    private static void checkNothingFits(String how, PastBets x) {
        due(how + ": heaviest", x.heaviest(), NONE);
        due(how + ": settled", x.settled(0, 3, 3), NONE);
        due(how + ": chance", x.chance(0, 3, 3), NO);
    }

    private static void nothingFitsAtAll() {
        sentence("If all together WEIGH nothing, nothing FITS.");
        checkNothingFits("finds against each other", nothingFits());
        PastBets byLaws = new PastBets();
        byLaws.rule(1, 4, 4);
        byLaws.rule(2, 4, 4);
        checkNothingFits("laws against each other", byLaws);
        PastBets byBoth = new PastBets();
        byBoth.rule(0, 5, 6);
        byBoth.find(5, 1, 10);
        byBoth.find(6, 1, 0);
        checkNothingFits("finds against a law", byBoth);
        for (int past = 0; past < 128; past += 127) {
            PastBets one = knownPast(past);
            due("one past that weighs is enough", one.heaviest(), past);
            due("one past that weighs is enough", one.chance(0, 3, 3), 1);
        }
        due("one past that weighs 1 is enough", onlyPastZero().chance(1, 3, 3), 1);
        due("one past that weighs 1 is enough", onlyPastZero().heaviest(), 0);
    }

    private static void claimsOfKinds() {
        sentence("CLAIMS are a KIND and FACTS a, b.");
        PastBets x = new PastBets();
        due("kind -1", x.settled(-1, 0, 0), BAD);
        due("kind 6", x.settled(6, 0, 0), BAD);
        due("a -1", x.settled(0, -1, 0), BAD);
        due("a 7", x.settled(0, 7, 0), BAD);
        for (int kind = 0; kind < 6; kind++) {
            due("b -1, also where it does not matter", x.settled(kind, 0, -1), BAD);
            due("b 7, also where it does not matter", x.settled(kind, 0, 7), BAD);
        }
    }

    private static void checkClaim(int kind, Told holds) {
        for (int[] pair : PAIRS) {
            PastBets x = new PastBets();
            int many = 0;
            for (int past = 0; past < 128; past++) {
                boolean so = holds.by(wasSo(past, pair[0]), wasSo(past, pair[1]));
                due("of " + pair[0] + ", " + pair[1] + " in " + past, x.holds(kind, pair[0], pair[1], past), so ? 1 : 0);
                many += so ? 1 : 0;
            }
            due("its chance", x.chance(kind, pair[0], pair[1]), 1);
            due("its chance, of " + pair[0] + ", " + pair[1], x.part(0) * 128, many * x.part(1));
        }
    }

    private static void claimFact() {
        sentence("0 FACT: a was so.");
        checkClaim(0, (a, b) -> a);
    }

    private static void claimDenied() {
        sentence("1 DENIED (under FACT): not as FACT.");
        checkClaim(1, (a, b) -> !a);
    }

    private static void claimBoth() {
        sentence("2 BOTH (under FACT): as FACT, and b was so.");
        checkClaim(2, (a, b) -> a && b);
    }

    private static void claimEither() {
        sentence("3 EITHER (under FACT): as FACT, or b was so.");
        checkClaim(3, (a, b) -> a || b);
    }

    private static void claimNeither() {
        sentence("4 NEITHER (under EITHER): not as EITHER.");
        checkClaim(4, (a, b) -> !a && !b);
    }

    private static void claimAlone() {
        sentence("5 ALONE (under BOTH): as FACT, and not as BOTH.");
        checkClaim(5, (a, b) -> a && !b);
    }

    private static void betsAreEight() {
        sentence("BETS 0 .. 7, as they come: a CLAIM");
        PastBets x = new PastBets();
        for (int k = 0; k < 8; k++) {
            due("bet " + k, x.bet(1, 6, 0, 10 + k, k), k);
        }
        for (int k = 0; k < 8; k++) {
            due("the stake of bet " + k, x.of(k, 3), 10 + k);
            due("the odds of bet " + k, x.of(k, 4), k);
        }
        long before = x.digest();
        due("a ninth", x.bet(1, 6, 0, 1, 1), FULL);
        due("it changes nothing", x.digest(), before);
        due("the eighth counts too", x.book(64), 10 + 11 + 12 + 13 + 14 + 15 + 16 + 17);
    }

    private static void stakesAndOdds() {
        sentence("a STAKE (1 .. 99), ODDS (0 .. 99) to one:");
        PastBets x = new PastBets();
        due("stake 0", x.bet(0, 0, 0, 0, 1), BAD);
        due("stake -1", x.bet(0, 0, 0, -1, 1), BAD);
        due("stake 100", x.bet(0, 0, 0, 100, 1), BAD);
        due("odds -1", x.bet(0, 0, 0, 1, -1), BAD);
        due("odds 100", x.bet(0, 0, 0, 1, 100), BAD);
        due("none was taken", x.count(2), 0);
        due("stake 1, odds 0", x.bet(0, 0, 0, 1, 0), 0);
        due("stake 99, odds 99", x.bet(0, 0, 0, 99, 99), 1);
        due("the greatest stake", x.of(1, 3), 99);
        due("the greatest odds", x.of(1, 4), 99);
    }

    private static void bookmakerPaysOrHas() {
        sentence("the bookmaker pays STAKE times ODDS, if it holds, else has the STAKE.");
        PastBets x = new PastBets();
        x.bet(0, 0, 0, 99, 99);
        due("the most is paid", x.book(1), -99 * 99);
        due("the most is had", x.book(0), 99);
        x.off();
        x.bet(0, 0, 0, 1, 0);
        due("at odds of 0 nothing is paid, nor had", x.book(1), 0);
        due("the least is had", x.book(0), 1);
        x.off();
        x.bet(4, 0, 6, 7, 3);
        due("neither was: paid", x.book(62), -21);
        due("one was: had", x.book(64), 7);
    }
}
