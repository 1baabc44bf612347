/** For each promise of the document: ordinary calls, the edges that it names, and wrong numbers, worked out by hand. */
public final class PromiseTest extends Checks {
    public static void main(String[] args) {
        promise1NewObject();
        promise2Past();
        promise3Rule();
        promise4Find();
        promise5Drop();
        promise6Undo();
        promise7Bet();
        promise8Off();
        promises9And10Text();
        promise11Read();
        promise11Faults();
        promise12Of();
        promise13Possible();
        promise14Weighs();
        promise15Heaviest();
        promise16Holds();
        promise17Settled();
        promise18Chance();
        promise19IfFound();
        promise20Book();
        promise21Worst();
        promise22Mean();
        promise23Sure();
        promise24Worth();
        promise25Dig();
        promise26Doped();
        promise27Price();
        promise28Forget();
        promise29Told();
        promise30Days();
        promise31Part();
        promises32And33Images();
        promise34Status();
        promise35Count();
        promise36Digest();
        finish("PromiseTest");
    }

    private static void promise1NewObject() {
        PastBets x = new PastBets();
        for (int what = 0; what <= 5; what++) {
            due("1 count " + what, x.count(what), 0);
        }
        fraction("1", x, 0, 1);
        refused("1", x, 0, 0, 0);
        due("1 no image", x.from(0), NO);
        due("1 NONE", NONE, -1);
        due("1 BAD", BAD, -2);
        due("1 NO", NO, -3);
        due("1 FULL", FULL, -4);
    }

    private static void promise2Past() {
        PastBets x = new PastBets();
        x.rule(0, 0, 1);
        x.find(0, 1, 3);
        x.find(1, 1, 3);
        x.bet(0, 0, 0, 1, 1);
        x.price(0, 0, 0, 1, 1);
        x.type('p');
        x.image(1);
        x.chance(0, 0, 0);
        long above = x.part(0);
        long below = x.part(1);
        x.undo();
        x.status(9);
        due("2 weights ahead", x.weighs(127), 3);
        due("2 finds there were", x.past(), 1);
        for (int what = 0; what <= 4; what++) {
            due("2 count " + what, x.count(what), 0);
        }
        due("2 text stays", x.count(5), 1);
        due("2 undo", x.undo(), NO);
        due("2 weights", x.weighs(127), 1);
        fraction("2 fraction stays", x, above, below);
        refused("2 status stays", x, 1, 1, 0);
        due("2 image stays", x.from(1), 1);
        due("2 from image", x.count(1), 2);
    }

    private static void promise3Rule() {
        PastBets x = new PastBets();
        due("3 kind 4", x.rule(4, 0, 0), BAD);
        due("3 kind -1", x.rule(-1, 0, 0), BAD);
        due("3 a 7", x.rule(0, 7, 0), BAD);
        due("3 a -1", x.rule(0, -1, 0), BAD);
        due("3 b 7", x.rule(0, 0, 7), BAD);
        due("3 b -1", x.rule(0, 0, -1), BAD);
        for (int k = 0; k < 8; k++) {
            due("3 law " + k, x.rule(k % 4, 6, 6), k);
        }
        due("3 ninth", x.rule(0, 0, 0), FULL);
        due("3 ninth, bad first", x.rule(0, 0, 7), BAD);
        refused("3", x, 7, 0, 1);
        int[][] broken = {{1}, {3}, {0}, {1, 2}};
        for (int kind = 0; kind < 4; kind++) {
            PastBets y = new PastBets();
            y.rule(kind, 0, 1);
            due("3 possible by kind " + kind, y.possible(NONE), 128 - 32 * broken[kind].length);
            for (int past : broken[kind]) {
                due("3 kind " + kind + " is broken in " + past, y.weighs(past), 0);
            }
        }
    }

    private static void promise4Find() {
        PastBets x = new PastBets();
        due("4 a 7", x.find(7, 0, 0), BAD);
        due("4 a -1", x.find(-1, 0, 0), BAD);
        due("4 v 2", x.find(0, 2, 0), BAD);
        due("4 v -1", x.find(0, -1, 0), BAD);
        due("4 r 11", x.find(0, 0, 11), BAD);
        due("4 r -1", x.find(0, 0, -1), BAD);
        for (int k = 0; k < 10; k++) {
            due("4 find " + k, x.find(k % 7, k % 2, k + 1), k);
        }
        due("4 eleventh", x.find(0, 0, 0), FULL);
        due("4 eleventh, bad first", x.find(0, 0, 11), BAD);
        due("4 may be undone", x.count(4), 8);
        refused("4", x, 7, 0, 1);
    }

    private static void promise5Drop() {
        PastBets x = new PastBets();
        due("5 none", x.drop(0), BAD);
        x.find(0, 1, 2);
        x.find(1, 1, 3);
        x.find(2, 1, 5);
        due("5 behind", x.drop(3), BAD);
        due("5 ahead", x.drop(-1), BAD);
        due("5 left", x.drop(1), 2);
        due("5 weighs", x.weighs(7), 10);
        due("5 the last has a number less", x.drop(1), 1);
        due("5 weighs 2", x.weighs(7), 2);
        due("5 undone", x.undo(), 2);
        x.find(3, 1, 7);
        x.find(4, 0, 1);
        due("5 the first of four", x.drop(0), 3);
        due("5 those behind stay", x.weighs(15), 5 * 7);
        due("5 it is told again", x.find(6, 1, 6), 3);
        due("5 the second of four", x.drop(1), 3);
        due("5 those around stay", x.weighs(68), 5 * 6);
        x.undo();
        x.undo();
        x.undo();
        x.undo();
        due("5 undone four times", x.undo(), 2);
        due("5 weighs undone", x.weighs(7), 10);
    }

    private static void promise6Undo() {
        PastBets x = new PastBets();
        due("6 nothing", x.undo(), NO);
        x.find(0, 1, 2);
        x.find(1, 1, 3);
        x.drop(0);
        due("6 the drop", x.undo(), 2);
        due("6 as ahead", x.weighs(3), 6);
        due("6 a find", x.undo(), 1);
        due("6 as ahead", x.weighs(3), 2);
        due("6 the first", x.undo(), 0);
        due("6 no more", x.undo(), NO);
        x.find(0, 1, 2);
        x.bet(0, 0, 0, 1, 1);
        due("6 bets are no step", x.count(4), 1);
        x.rule(0, 0, 0);
        due("6 behind a law", x.count(4), 0);
        due("6 behind a law", x.undo(), NO);
        x.find(0, 1, 3);
        x.rule(4, 0, 0);
        due("6 behind a refused law", x.undo(), 1);
        for (int k = 0; k < 9; k++) {
            x.find(0, 1, 9 - k);
        }
        for (int k = 0; k < 8; k++) {
            due("6 step " + k, x.undo(), 9 - k);
        }
        due("6 eight at most", x.undo(), NO);
        due("6 what was ahead of the eighth", x.weighs(1), 2 * 9);
        undoTellsAndDrops();
    }

    /** Twelve steps, told and dropped by turns, so that each step back shows finds of its own. */
    private static void undoTellsAndDrops() {
        PastBets x = new PastBets();
        long[] weights = new long[12];
        for (int step = 0; step < 12; step++) {
            weights[step] = x.weighs(1);
            if (step % 3 == 2) {
                x.drop(0);
            } else {
                x.find(0, 1, 1 + step % 9);
            }
        }
        for (int step = 11; step >= 4; step--) {
            x.undo();
            due("6 ahead of step " + step, x.weighs(1), weights[step]);
        }
        due("6 no ninth", x.undo(), NO);
    }

    private static void promise7Bet() {
        PastBets x = new PastBets();
        due("7 kind 6", x.bet(6, 0, 0, 1, 0), BAD);
        due("7 kind -1", x.bet(-1, 0, 0, 1, 0), BAD);
        due("7 a", x.bet(0, 7, 0, 1, 0), BAD);
        due("7 b", x.bet(0, 0, 7, 1, 0), BAD);
        due("7 b -1", x.bet(0, 0, -1, 1, 0), BAD);
        due("7 stake 0", x.bet(0, 0, 0, 0, 0), BAD);
        due("7 stake 100", x.bet(0, 0, 0, 100, 0), BAD);
        due("7 odds -1", x.bet(0, 0, 0, 1, -1), BAD);
        due("7 odds 100", x.bet(0, 0, 0, 1, 100), BAD);
        for (int k = 0; k < 8; k++) {
            due("7 bet " + k, x.bet(k % 6, 0, 6, k == 0 ? 99 : 1, k == 0 ? 99 : 0), k);
        }
        due("7 ninth", x.bet(0, 0, 0, 1, 1), FULL);
        due("7 ninth, bad first", x.bet(0, 0, 0, 0, 1), BAD);
        refused("7", x, 10, 0, 1);
    }

    private static void promise8Off() {
        PastBets x = new PastBets();
        due("8 none", x.off(), 0);
        x.bet(0, 0, 0, 5, 5);
        x.bet(0, 0, 0, 5, 5);
        due("8 two", x.off(), 2);
        due("8 off", x.count(2), 0);
        due("8 no book", x.book(1), 0);
        due("8 the next is the first", x.bet(1, 0, 0, 1, 1), 0);
    }

    private static void promises9And10Text() {
        PastBets x = new PastBets();
        due("10 empty", x.clear(), 0);
        due("9 -1", x.type(-1), BAD);
        due("9 128", x.type(128), BAD);
        due("9 0", x.type(0), 1);
        for (int k = 2; k <= 150; k++) {
            due("9 byte " + k, x.type(127), k);
        }
        due("9 full", x.type(1), FULL);
        due("9 full, bad first", x.type(128), BAD);
        due("10 had", x.clear(), 150);
        due("10 is empty", x.count(5), 0);
        due("10 again", x.clear(), 0);
        refused("9", x, 3, 0, 1);
    }

    private static void promise11Read() {
        PastBets x = new PastBets();
        x.price(0, 0, 0, 1, 1);
        x.find(0, 1, 1);
        x.image(0);
        x.chance(0, 0, 0);
        due("11 past alone", readText(x, "past;"), 1);
        due("11 no prices", x.count(3), 0);
        due("11 nothing to undo", x.count(4), 0);
        due("11 the text stays", x.count(5), 5);
        fraction("11 the fraction stays", x, 1, 10);
        due("11 all items", readText(x, "  past ; rule 0 1 02;find 3 1 10 ;bet 5 0 6 99 00; bet0 0 0 1 0;"), 5);
        due("11 law", x.count(0), 1);
        due("11 finds", x.weighs(8), 10);
        due("11 law is kept", x.weighs(10), 0);
        due("11 bet kind", x.of(0, 0), 5);
        due("11 bet b", x.of(0, 2), 6);
        due("11 stake", x.of(0, 3), 99);
        due("11 odds", x.of(0, 4), 0);
        due("11 a word and a number without a blank", x.of(1, 3), 1);
        due("11 image stays", x.from(0), 1);
        due("11 from image", x.count(3), 1);
        due("11 eight rules", readText(x, "past;" + "rule 0 0 0;".repeat(8)), 9);
        due("11 ten finds", readText(x, "past;" + "find 0 0 0;".repeat(10)), 11);
        due("11 eight bets", readText(x, "past;" + "bet 0 0 0 1 0;".repeat(8)), 9);
        refused("11", x, 0, 0, 0);
    }

    private static void fault(String text, int place) {
        PastBets x = new PastBets();
        x.find(0, 1, 3);
        long before = x.digest();
        due("11 fault of \"" + text + "\"", readText(x, text), -10 - place);
        refused("11 a fault is not refused", x, 0, 0, 0);
        x.clear();
        due("11 all stays behind \"" + text + "\"", x.digest(), before);
    }

    private static void promise11Faults() {
        fault("", 0);
        fault("   ", 3);
        fault("past", 4);
        fault("past  ", 6);
        fault("past;past;", 5);
        fault("rule 0 0 0;", 0);
        fault(" ;", 1);
        fault("pas;", 0);
        fault("pastt;", 0);
        fault("pastz;", 0);
        fault("pasta;", 0);
        fault("pust;", 0);
        fault("vast;", 0);
        fault("past;;", 5);
        fault("past 1;", 5);
        fault("past;rul", 5);
        fault("past; Rule 0 0 0;", 6);
        fault("past;rule 4 0 0;", 10);
        fault("past;rule 0 7 0;", 12);
        fault("past;rule 0 0 7;", 14);
        fault("past;rule 0 0;", 13);
        fault("past;rule 0 0 0 0;", 16);
        fault("past;rule 0 0 0", 15);
        fault("past;rule 0 0 ", 14);
        fault("past;rule 0 a 0;", 12);
        fault("past;rule 0 000 0;", 12);
        fault("past;find 0 2 0;", 12);
        fault("past;find 0 0 11;", 14);
        fault("past;find 0 0 007;", 14);
        fault("past;find 7 0 0;", 10);
        fault("past;bet 6 0 0 1 1;", 9);
        fault("past;bet 0 0 0 0 1;", 15);
        fault("past;bet 0 0 0 1 100;", 17);
        fault("past;bet 0 0 0 1 -1;", 17);
        fault("past;\n", 5);
        fault("past\trule", 4);
        fault("past;" + "rule 0 0 0;".repeat(9), 5 + 8 * 11);
        fault("past;" + "find 0 0 0;".repeat(11), 5 + 10 * 11);
        fault("past;" + "bet 0 0 0 1 0;".repeat(9), 5 + 8 * 14);
    }

    private static void promise12Of() {
        PastBets x = new PastBets();
        due("12 no bet", x.of(0, 0), BAD);
        x.bet(3, 1, 2, 4, 5);
        int[] row = {3, 1, 2, 4, 5};
        for (int what = 0; what < 5; what++) {
            due("12 what " + what, x.of(0, what), row[what]);
        }
        due("12 what 5", x.of(0, 5), BAD);
        due("12 what -1", x.of(0, -1), BAD);
        due("12 bet 1", x.of(1, 0), BAD);
        due("12 bet -1", x.of(-1, 0), BAD);
        refused("12", x, 5, 0, 0);
    }

    private static void promise13Possible() {
        PastBets x = new PastBets();
        due("13 all", x.possible(NONE), 128);
        x.rule(3, 0, 1);
        due("13 half", x.possible(NONE), 64);
        due("13 first", x.possible(0), 0);
        due("13 second", x.possible(1), 3);
        due("13 third", x.possible(2), 4);
        due("13 last", x.possible(63), 127);
        due("13 not so many", x.possible(64), -5);
        due("13 not so many by far", x.possible(Integer.MAX_VALUE), -5);
        refused("13 is not refused", x, 0, 0, 0);
        due("13 bad", x.possible(-2), -10);
        x.find(0, 1, 10);
        due("13 finds do not matter", x.possible(NONE), 64);
        x.rule(1, 0, 0);
        x.rule(2, 0, 0);
        due("13 none", x.possible(NONE), 0);
        due("13 none, the first", x.possible(0), -5);
        refused("13", x, 1, 0, 0);
    }

    private static void promise14Weighs() {
        PastBets x = new PastBets();
        due("14 without finds", x.weighs(0), 1);
        for (int k = 0; k < 10; k++) {
            x.find(6, 1, 10);
        }
        due("14 most", x.weighs(64), 10_000_000_000L);
        due("14 least", x.weighs(63), 0);
        x.past();
        x.find(0, 0, 3);
        x.find(1, 1, 4);
        due("14 not so, not so", x.weighs(0), 3 * 6);
        due("14 so, not so", x.weighs(1), 7 * 6);
        due("14 not so, so", x.weighs(2), 3 * 4);
        due("14 so, so", x.weighs(3), 7 * 4);
        x.rule(1, 0, 1);
        due("14 not possible", x.weighs(3), 0);
        due("14 128", x.weighs(128), -10);
        due("14 -1", x.weighs(-1), -10);
        refused("14", x, 2, 0, 0);
    }

    private static void promise15Heaviest() {
        PastBets x = new PastBets();
        due("15 of like ones the least", x.heaviest(), 0);
        x.find(2, 1, 6);
        x.find(3, 0, 2);
        due("15 heaviest", x.heaviest(), 12);
        due("15 none", nothingFits().heaviest(), NONE);
        refused("15", x, 0, 0, 0);
    }

    private static void promise16Holds() {
        PastBets x = new PastBets();
        int[] byKind = {0b1010, 0b0101, 0b1000, 0b1110, 0b0001, 0b0010};
        for (int kind = 0; kind < 6; kind++) {
            for (int past = 0; past < 4; past++) {
                due("16 kind " + kind + " in " + past, x.holds(kind, 0, 1, past), byKind[kind] >> past & 1);
            }
        }
        due("16 the highest fact", x.holds(0, 6, 0, 64), 1);
        due("16 alone with itself", x.holds(5, 2, 2, 4), 0);
        due("16 kind 6", x.holds(6, 0, 0, 0), BAD);
        due("16 a", x.holds(0, 7, 0, 0), BAD);
        due("16 b", x.holds(0, 0, 7, 0), BAD);
        due("16 past 128", x.holds(0, 0, 0, 128), BAD);
        due("16 past -1", x.holds(0, 0, 0, -1), BAD);
        refused("16", x, 5, 0, 0);
    }

    private static void promise17Settled() {
        PastBets x = new PastBets();
        due("17 some", x.settled(0, 0, 0), 2);
        due("17 none", x.settled(5, 0, 0), 0);
        x.find(0, 1, 10);
        due("17 all", x.settled(0, 0, 0), 1);
        due("17 denied", x.settled(1, 0, 0), 0);
        x.rule(0, 0, 3);
        due("17 by a law", x.settled(2, 0, 3), 1);
        due("17 bad", x.settled(6, 0, 0), BAD);
        due("17 bad a", x.settled(0, -1, 0), BAD);
        refused("17", x, 2, 0, 0);
        PastBets two = new PastBets();
        for (int fact = 1; fact < 7; fact++) {
            two.rule(3, 0, fact);
        }
        due("17 only 0 and 127", two.settled(0, 6, 6), 2);
        PastBets y = nothingFits();
        due("17 nothing fits", y.settled(0, 0, 0), NONE);
        due("17 bad first", y.settled(0, 0, 7), BAD);
        refused("17 NONE is not refused", y, 1, 0, 0);
    }

    private static void promise18Chance() {
        PastBets x = new PastBets();
        due("18 half", x.chance(0, 0, 0), 1);
        fraction("18 half", x, 1, 2);
        x.find(0, 1, 8);
        x.chance(0, 0, 0);
        fraction("18 by a find", x, 4, 5);
        x.chance(4, 0, 1);
        fraction("18 neither", x, 1, 10);
        x.ifFound(4, 0, 1, 2, 0, 7);
        fraction("18 neither, another fact found", x, 1, 10);
        PastBets one = new PastBets();
        for (int fact = 0; fact < 7; fact++) {
            one.rule(1, fact, fact);
        }
        due("18 only 0 is possible", one.chance(4, 0, 6), 1);
        fraction("18 only 0 is possible", one, 1, 1);
        one.ifFound(4, 0, 6, 1, 0, 3);
        fraction("19 only 0 is possible", one, 1, 1);
        due("26 only 0 is possible", one.doped(), 0);
        one.find(3, 1, 10);
        due("26 only 0 is possible", one.doped(), 1);
        x.chance(5, 0, 0);
        fraction("18 never", x, 0, 1);
        due("18 bad", x.chance(0, 0, 7), BAD);
        fraction("18 refused", x, 0, 1);
        x.find(0, 1, 10);
        x.find(0, 0, 10);
        due("18 no", x.chance(0, 0, 0), NO);
        due("18 bad first", x.chance(6, 0, 0), BAD);
        fraction("18 stays", x, 0, 1);
        refused("18", x, 2, 1, 0);
    }

    private static void promise19IfFound() {
        PastBets x = new PastBets();
        due("19 found", x.ifFound(0, 0, 0, 0, 1, 9), 1);
        fraction("19 found", x, 9, 10);
        x.ifFound(0, 0, 0, 0, 0, 9);
        fraction("19 found not so", x, 1, 10);
        due("19 no find comes", x.count(1), 0);
        due("19 f", x.ifFound(0, 0, 0, 7, 0, 0), BAD);
        due("19 v", x.ifFound(0, 0, 0, 0, 2, 0), BAD);
        due("19 r", x.ifFound(0, 0, 0, 0, 0, 11), BAD);
        due("19 claim", x.ifFound(6, 0, 0, 0, 0, 0), BAD);
        x.find(0, 1, 10);
        due("19 nothing would fit", x.ifFound(1, 1, 1, 0, 0, 10), NO);
        fraction("19 stays", x, 1, 10);
        for (int k = 1; k < 10; k++) {
            x.find(0, 1, 10);
        }
        due("19 with ten finds", x.ifFound(2, 0, 1, 1, 1, 10), 1);
        fraction("19 with ten finds", x, 1, 1);
        PastBets y = nothingFits();
        due("19 nothing fits", y.ifFound(0, 0, 0, 1, 1, 5), NO);
        due("19 bad first", y.ifFound(0, 0, 0, 1, 1, -1), BAD);
        refused("19", x, 4, 1, 0);
    }

    private static void promise20Book() {
        PastBets x = new PastBets();
        due("20 no bets", x.book(5), 0);
        x.bet(0, 0, 0, 10, 3);
        x.bet(0, 1, 0, 7, 0);
        due("20 none holds", x.book(0), 17);
        due("20 the first", x.book(1), -30 + 7);
        due("20 odds of 0", x.book(2), 10);
        due("20 both", x.book(3), -30);
        due("20 128", x.book(128), -100000);
        due("20 -1", x.book(-1), -100000);
        refused("20", x, 2, 0, 0);
        PastBets y = new PastBets();
        for (int k = 0; k < 8; k++) {
            y.bet(0, 6, 0, 99, 99);
        }
        due("20 most", y.book(127), -8 * 99 * 99);
    }

    private static void promise21Worst() {
        PastBets x = new PastBets();
        x.bet(0, 2, 0, 10, 3);
        x.bet(0, 1, 0, 10, 1);
        due("21 least", x.worst(0), -40);
        due("21 in which", x.worst(1), 6);
        x.find(1, 1, 0);
        due("21 least of those that weigh", x.worst(0), -20);
        due("21 in which", x.worst(1), 4);
        due("21 what 2", x.worst(2), -100000);
        due("21 what -1", x.worst(-1), -100000);
        x.find(1, 1, 10);
        due("21 nothing fits", x.worst(0), -99999);
        due("21 nothing fits", x.worst(1), -99999);
        due("21 bad first", x.worst(2), -100000);
        refused("21", x, 3, 2, 0);
        PastBets y = new PastBets();
        y.find(0, 1, 10);
        y.bet(1, 0, 0, 9, 9);
        due("21 the least may be above 0", y.worst(0), 9);
        due("21 the first", y.worst(1), 1);
    }

    private static void promise22Mean() {
        PastBets x = new PastBets();
        due("22 no bets", x.mean(), 1);
        fraction("22 no bets", x, 0, 1);
        x.bet(0, 0, 0, 10, 3);
        x.mean();
        fraction("22 below 0", x, -10, 1);
        x.find(0, 1, 1);
        x.mean();
        fraction("22 above 0", x, 6, 1);
        x.find(1, 1, 3);
        x.bet(2, 0, 1, 1, 5);
        x.mean();
        fraction("22 two bets", x, 341, 50);
        due("22 no", nothingFits().mean(), NO);
    }

    private static void promise23Sure() {
        PastBets x = new PastBets();
        due("23 no bets", x.sure(0), NONE);
        x.bet(0, 0, 0, 10, 1);
        x.bet(1, 0, 0, 10, 1);
        due("23 wins nothing", x.sure(0), NONE);
        due("23 wins nothing", x.sure(1), NONE);
        x.bet(1, 0, 0, 20, 1);
        x.bet(0, 0, 0, 10, 4);
        due("23 which", x.sure(0), 0b1100);
        due("23 how much", x.sure(1), 10);
        due("23 what 2", x.sure(2), BAD);
        due("23 what -1", x.sure(-1), BAD);
        refused("23", x, 2, 0, 0);
        PastBets y = new PastBets();
        y.find(0, 1, 10);
        y.bet(0, 0, 0, 5, 0);
        y.bet(0, 0, 0, 5, 2);
        due("23 of like ones fewer", y.sure(0), 0b10);
        y.bet(0, 0, 0, 2, 5);
        y.bet(0, 0, 0, 20, 0);
        due("23 all that win", y.sure(0), 0b110);
        due("23 how much", y.sure(1), 20);
        PastBets z = new PastBets();
        z.bet(0, 0, 0, 1, 5);
        z.bet(1, 0, 0, 1, 5);
        z.bet(1, 0, 0, 1, 5);
        due("23 of like ones the least bits", z.sure(0), 0b011);
        due("23 how much", z.sure(1), 4);
        PastBets tied = new PastBets();
        tied.bet(1, 0, 0, 10, 1);
        tied.bet(1, 0, 0, 10, 1);
        tied.bet(1, 0, 0, 20, 1);
        tied.bet(0, 0, 0, 10, 3);
        due("23 fewer, though of more bits", tied.sure(0), 0b1100);
        due("23 how much", tied.sure(1), 10);
        tied.off();
        tied.bet(0, 0, 0, 1, 2);
        tied.bet(1, 0, 0, 1, 2);
        due("23 wins 1", tied.sure(0), 0b11);
        due("23 wins 1", tied.sure(1), 1);
        tied.off();
        due("23 off", tied.sure(0), NONE);
        PastBets none = nothingFits();
        none.bet(0, 0, 0, 1, 9);
        due("23 nothing fits", none.sure(0), NONE);
        refused("23 NONE is not refused", none, 0, 0, 0);
    }

    private static void promise24Worth() {
        PastBets x = new PastBets();
        due("24 no bet", x.worth(0, 0), BAD);
        x.bet(0, 0, 0, 10, 1);
        due("24 worth", x.worth(0, 0), 1);
        fraction("24 he would gain nothing without", x, 5, 1);
        x.worth(0, 1);
        fraction("24 another fact tells nothing", x, 0, 1);
        x.find(0, 1, 6);
        x.worth(0, 0);
        fraction("24 less what he gains without", x, 6 - 2, 1);
        x.rule(0, 0, 1);
        x.rule(0, 1, 0);
        x.worth(0, 1);
        fraction("24 by a law", x, 4, 1);
        due("24 fact 7", x.worth(0, 7), BAD);
        due("24 fact -1", x.worth(0, -1), BAD);
        due("24 bet 1", x.worth(1, 0), BAD);
        due("24 bet -1", x.worth(-1, 0), BAD);
        PastBets y = nothingFits();
        y.bet(0, 0, 0, 10, 1);
        due("24 no", y.worth(0, 0), NO);
        due("24 bad first", y.worth(0, 7), BAD);
        refused("24", y, 1, 1, 0);
    }

    private static void promise25Dig() {
        PastBets x = new PastBets();
        due("25 no bet", x.dig(0), BAD);
        x.bet(0, 3, 0, 10, 1);
        x.bet(2, 5, 4, 10, 3);
        x.bet(5, 0, 0, 10, 3);
        x.chance(0, 0, 0);
        due("25 the fact itself", x.dig(0), 3);
        due("25 of like ones the first", x.dig(1), 4);
        due("25 none is worth more", x.dig(2), 0);
        fraction("25 the fraction stays", x, 1, 2);
        due("25 bet 3", x.dig(3), BAD);
        due("25 bet -1", x.dig(-1), BAD);
        x.find(0, 1, 10);
        x.find(0, 1, 0);
        due("25 no", x.dig(0), NO);
        refused("25", x, 3, 1, 0);
    }

    private static void promise26Doped() {
        PastBets x = new PastBets();
        due("26 none is needed", x.doped(), 0);
        x.find(0, 1, 10);
        x.find(0, 0, 10);
        due("26 of like ones the least", x.doped(), 0b01);
        x.find(0, 0, 10);
        due("26 the fewest", x.doped(), 0b001);
        x.find(0, 1, 10);
        x.find(0, 0, 0);
        due("26 the fewest, not the least", x.doped(), 0b00110);
        PastBets y = new PastBets();
        y.find(0, 0, 10);
        y.find(0, 0, 10);
        y.find(0, 1, 10);
        due("26 one, not two of less bits", y.doped(), 0b100);
        x.rule(1, 1, 1);
        x.rule(2, 1, 1);
        due("26 none such", x.doped(), NONE);
        refused("26", x, 0, 0, 0);
    }

    private static void promise27Price() {
        PastBets x = new PastBets();
        due("27 claim", x.price(6, 0, 0, 0, 0), BAD);
        due("27 b", x.price(0, 0, 7, 0, 0), BAD);
        due("27 x 100", x.price(0, 0, 0, 100, 0), BAD);
        due("27 x -1", x.price(0, 0, 0, -1, 0), BAD);
        due("27 takes 2", x.price(0, 0, 0, 0, 2), BAD);
        due("27 takes -1", x.price(0, 0, 0, 0, -1), BAD);
        for (int k = 1; k <= 6; k++) {
            due("27 price " + k, x.price(0, 0, 0, k == 1 ? 99 : 0, k % 2), k);
        }
        due("27 seventh", x.price(0, 0, 0, 0, 0), FULL);
        due("27 seventh, bad first", x.price(0, 0, 0, 0, 2), BAD);
        refused("27", x, 7, 0, 1);
    }

    private static void promise28Forget() {
        PastBets x = new PastBets();
        due("28 none", x.forget(), 0);
        x.price(0, 0, 0, 0, 0);
        x.price(0, 0, 0, 0, 0);
        due("28 two", x.forget(), 2);
        due("28 none is left", x.count(3), 0);
    }

    private static void promise29Told() {
        PastBets x = new PastBets();
        due("29 no prices", x.told(0), 15);
        due("29 no prices, the first", x.told(1), 0);
        x.price(0, 2, 0, 1, 1);
        due("29 at even odds, only if it was so", x.told(0), 1);
        due("29 2 a and 1", x.told(1), 5);
        x.forget();
        x.price(0, 2, 0, 2, 1);
        x.price(0, 2, 0, 1, 0);
        due("29 nothing of it", x.told(0), 13);
        x.price(0, 0, 0, 2, 0);
        due("29 not so", x.told(1), 0);
        due("29 not so alone", x.told(0), 1);
        x.price(0, 0, 0, 99, 1);
        due("29 none", x.told(0), 0);
        due("29 none, the first", x.told(1), NONE);
        due("29 what 2", x.told(2), BAD);
        due("29 what -1", x.told(-1), BAD);
        x.find(0, 1, 10);
        x.forget();
        due("29 a fact by which nothing fits", x.told(0), 14);
        due("29 a fact by which nothing fits, the first", x.told(1), 1);
        x.find(0, 1, 0);
        due("29 no", x.told(0), NO);
        due("29 bad first", x.told(2), BAD);
        refused("29", x, 3, 1, 0);
        toldNothingBesides();
    }

    private static void toldNothingBesides() {
        PastBets x = new PastBets();
        for (int fact = 0; fact < 3; fact++) {
            x.rule(3, 2 * fact, 2 * fact + 1);
            x.rule(3, 0, 2 * fact);
        }
        x.rule(3, 0, 6);
        x.price(0, 0, 0, 2, 1);
        x.price(1, 0, 0, 2, 1);
        due("29 nothing besides alone", x.told(0), 1);
        due("29 nothing besides is 14", x.told(1), 14);
    }

    private static void promise30Days() {
        PastBets x = new PastBets();
        due("30 seed", x.days(1000000, 1, 0, 0, 0), BAD);
        due("30 seed -1", x.days(-1, 1, 0, 0, 0), BAD);
        due("30 n 0", x.days(0, 0, 0, 0, 0), BAD);
        due("30 n 31", x.days(0, 31, 0, 0, 0), BAD);
        due("30 claim", x.days(0, 1, 0, 0, 7), BAD);
        x.chance(0, 0, 0);
        due("30 settled at once", x.days(999999, 30, 5, 3, 3), 1);
        fraction("30 settled at once", x, 0, 1);
        // X by 65536: 0 for the true past, then 21468, 9988, 22117, 3498, 16927: the facts 6, 6, 4, 5, 1
        int[][] daysOfFact = {{6, 1}, {4, 3}, {5, 4}, {1, 5}};
        for (int[] pair : daysOfFact) {
            due("30 once", x.days(0, 1, 0, pair[0], 0), 1);
            fraction("30 days of fact " + pair[0], x, pair[1], 1);
        }
        x.days(0, 1, 2, 6, 4);
        fraction("30 the true past is 0: one fact is enough", x, 1, 1);
        x.days(0, 1, 3, 6, 4);
        fraction("30 both are needed", x, 3, 1);
        // X goes on: 3 days, a draw for the second true past, then the facts 1, 1, 1, 5, 3, 4
        x.days(0, 2, 0, 4, 0);
        fraction("30 twice", x, 9, 2);
        x.find(0, 1, 10);
        x.find(0, 1, 0);
        due("30 no", x.days(0, 1, 0, 0, 0), NO);
        due("30 bad first", x.days(0, 1, 6, 0, 0), BAD);
        refused("30", x, 6, 1, 0);
        fortyDaysAtMost();
    }

    /** Some seed's draws leave a fact out for forty days; then the days are 40, and never more. */
    private static void fortyDaysAtMost() {
        boolean reached = false;
        for (int seed = 0; seed < 30; seed++) {
            PastBets x = new PastBets();
            for (int step = 0; step < 120; step++) {
                x.days(8000 * seed + 61 * step, 1, 0, step % 7, 0);
                due("30 at most 40", Math.max(40, x.part(0)), 40);
                reached = reached || x.part(0) == 40;
            }
        }
        due("30 forty are reached", reached ? 1 : 0, 1);
    }

    private static void promise31Part() {
        PastBets x = new PastBets();
        fraction("31 at first", x, 0, 1);
        due("31 what 2", x.part(2), BAD);
        due("31 what -1", x.part(-1), BAD);
        refused("31", x, 2, 0, 0);
        x.find(0, 1, 4);
        x.chance(0, 0, 0);
        fraction("31 lowest terms", x, 2, 5);
    }

    private static void promises32And33Images() {
        PastBets x = new PastBets();
        due("32 image 2", x.image(2), BAD);
        due("32 image -1", x.image(-1), BAD);
        due("33 none was kept", x.from(0), NO);
        due("33 image 2", x.from(2), BAD);
        due("33 image -1", x.from(-1), BAD);
        x.rule(0, 0, 1);
        x.find(0, 1, 3);
        x.find(1, 0, 4);
        x.bet(2, 0, 1, 9, 9);
        x.price(3, 0, 1, 9, 1);
        x.type('a');
        long kept = x.digest();
        due("32 kept", x.image(1), 1);
        due("33 the other was not", x.from(0), NO);
        x.past();
        x.find(5, 1, 1);
        x.find(5, 1, 1);
        due("33 weights ahead", x.weighs(3), 81);
        due("33 goes on", x.from(1), 1);
        due("33 all is as it was", x.digest(), kept);
        due("33 weights too", x.weighs(3), 3 * 6);
        due("33 it may be undone", x.undo(), 1);
        due("33 weights undone", x.weighs(3), 3);
        due("33 it may be undone", x.undo(), 0);
        due("33 weights undone", x.weighs(3), 1);
        x.type('b');
        x.chance(1, 6, 6);
        due("33 again", x.from(1), 1);
        due("33 the text is not kept", x.count(5), 2);
        fraction("33 the fraction is not kept", x, 1, 2);
        refused("33 status is not kept", x, 4, 2, 0);
        x.drop(0);
        x.undo();
        x.off();
        x.image(0);
        x.from(1);
        due("33 images are apart", x.count(2), 1);
        x.from(0);
        due("33 images are apart", x.count(2), 0);
    }

    private static void promise34Status() {
        PastBets x = nothingFits();
        due("34 what 3", x.status(3), -1);
        due("34 what -1", x.status(-1), -1);
        refused("34 another what is BAD", x, 2, 0, 0);
        x.weighs(128);
        x.possible(-2);
        x.book(-1);
        x.worst(7);
        refused("34 other answers count as BAD", x, 6, 0, 0);
        x.worst(0);
        x.mean();
        refused("34 other answers count as NO", x, 6, 2, 0);
        x.heaviest();
        x.settled(0, 0, 0);
        x.sure(0);
        x.doped();
        x.possible(200);
        x.read();
        refused("34 NONE, -5 and faults are no refusals", x, 6, 2, 0);
    }

    private static void promise35Count() {
        PastBets x = new PastBets();
        x.type('a');
        x.type('b');
        x.find(0, 0, 0);
        x.rule(0, 0, 0);
        for (int k = 0; k < 3; k++) {
            x.find(0, 0, 0);
        }
        x.bet(0, 0, 0, 1, 1);
        for (int k = 0; k < 5; k++) {
            x.price(0, 0, 0, 1, 1);
        }
        int[] counts = {1, 4, 1, 5, 3, 2};
        for (int what = 0; what < 6; what++) {
            due("35 what " + what, x.count(what), counts[what]);
        }
        due("35 what 6", x.count(6), BAD);
        due("35 what -1", x.count(-1), BAD);
        refused("35", x, 2, 0, 0);
    }

    private static void promise36Digest() {
        PastBets x = new PastBets();
        due("36 at first", x.digest(), mixed(0, 0, 0, 0, 0, 0, 0, 1));
        x.type('z');
        x.rule(1, 2, 3);
        x.find(4, 1, 9);
        x.bet(5, 6, 0, 11, 12);
        x.price(1, 2, 3, 4, 1);
        x.ifFound(0, 0, 0, 0, 1, 7);
        due("36 all", x.digest(),
            mixed(1, 1, 1, 1, 1, 1, 1, 2, 3, 4, 1, 9, 5, 6, 0, 11, 12, 1, 2, 3, 4, 1, 7, 10));
        x.mean();
        due("36 below 0", x.digest(),
            mixed(1, 1, 1, 1, 1, 1, 1, 2, 3, 4, 1, 9, 5, 6, 0, 11, 12, 1, 2, 3, 4, 1, -99, 4));
    }
}
