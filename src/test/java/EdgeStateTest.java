/** The edges of what is kept: UNDO, IMAGES, STATUS, past, and what each call that changes something changes. */
public final class EdgeStateTest extends Checks {
    public static void main(String[] args) {
        newObject();
        pastAsAtFirst();
        undoTold();
        undoDropped();
        undoEightAtMost();
        undoBehindALaw();
        undoFindsOnly();
        undoNone();
        imagesAreTwo();
        imagesKeep();
        imagesKeepNot();
        imagesKeepUndo();
        goesOnFromOne();
        noneWasKept();
        dropMovesTheRest();
        offAndForget();
        clearedText();
        countsOfAll();
        digestOfAll();
        callsTo512();
        finish("EdgeStateTest");
    }

    private static void newObject() {
        sentence("As told; no LAWS, FINDS, BETS.");
        PastBets x = new PastBets();
        due("all of it", x.digest(), mixed(0, 0, 0, 0, 0, 0, 0, 1));
        refused("nothing was refused", x, 0, 0, 0);
        due("no image 0", x.from(0), NO);
        due("no image 1", x.from(1), NO);
        due("nothing to undo", x.undo(), NO);
        due("no find", x.drop(0), BAD);
        due("no bet", x.of(0, 0), BAD);
        due("all may have been", x.possible(NONE), 128);
        PastBets other = new PastBets();
        other.find(0, 1, 10);
        due("objects are apart", x.count(1), 0);
        due("objects are apart", new PastBets().heaviest(), 0);
    }

    private static void pastAsAtFirst() {
        sentence("All as at first (but for IMAGES, THE TEXT, THE FRACTION, STATUS): how many FINDS there were.");
        PastBets x = fullOfAll();
        x.ifFound(0, 6, 6, 6, 1, 10);
        x.status(3);
        due("there were ten", x.past(), 10);
        due("as at first but for these", x.digest(), mixed(0, 0, 0, 0, 0, 150, x.part(0), x.part(1)));
        due("THE FRACTION", x.part(0), 1);
        refused("STATUS", x, 1, 0, 0);
        due("nothing to undo", x.undo(), NO);
        due("weights as at first", x.weighs(77), 1);
        due("there were none", x.past(), 0);
        due("THE TEXT is read", x.read(), 1);
        due("image 0", x.from(0), 1);
        due("image 0 has all", x.count(1), 10);
        x.past();
        due("image 1", x.from(1), 1);
        due("image 1 has all", x.count(2), 8);
    }

    private static void undoTold() {
        sentence("UNDO: FINDS as ahead of the last one told,");
        PastBets x = new PastBets();
        x.find(0, 1, 3);
        long one = x.digest();
        x.find(6, 0, 4);
        due("the last one", x.undo(), 1);
        due("as ahead of it", x.digest(), one);
        due("weights as ahead of it", x.weighs(1), 3);
        due("the first one", x.undo(), 0);
        due("weights as at first", x.weighs(0), 1);
        x.find(0, 1, 3);
        due("one that is refused is none", x.find(0, 1, 11), BAD);
        due("it is the one ahead that is undone", x.undo(), 0);
    }

    private static void undoDropped() {
        sentence("the last one told, dropped");
        PastBets x = new PastBets();
        x.find(0, 1, 3);
        x.find(1, 0, 4);
        x.find(2, 1, 5);
        for (int place = 0; place < 3; place++) {
            long rows = x.weighs(5);
            x.drop(place);
            due("the one at " + place, x.undo(), 3);
            due("weights as ahead", x.weighs(5), rows);
            due("it stands at its place, as the others do", x.digest(),
                mixed(0, 3, 0, 0, 3, 0, 0, 1, 3, 1, 0, 4, 2, 1, 5, 0, 1));
        }
        due("a drop that is refused is none", x.drop(3), BAD);
        due("it is the third find that is undone", x.undo(), 2);
    }

    private static void undoEightAtMost() {
        sentence("(8 at most;");
        PastBets x = new PastBets();
        for (int k = 0; k < 7; k++) {
            x.find(0, 1, 1);
        }
        due("seven", x.count(4), 7);
        x.find(0, 1, 1);
        due("eight", x.count(4), 8);
        x.find(0, 1, 1);
        due("eight, not nine", x.count(4), 8);
        for (int k = 1; k <= 8; k++) {
            due("step " + k, x.undo(), 9 - k);
            due("left", x.count(4), 8 - k);
        }
        due("no ninth", x.undo(), NO);
        due("the first find stays", x.count(1), 1);
        PastBets y = new PastBets();
        for (int k = 0; k < 12; k++) {
            y.find(k % 7, 1, 9);
            y.drop(0);
        }
        due("drops are steps too", y.count(4), 8);
        for (int k = 0; k < 8; k++) {
            due("a drop, then a find", y.undo(), k % 2 == 0 ? 1 : 0);
        }
        due("no more", y.undo(), NO);
    }

    private static void undoBehindALaw() {
        sentence("behind a LAW none may be).");
        PastBets x = new PastBets();
        x.find(0, 1, 3);
        x.find(0, 1, 4);
        due("a law that is refused does not matter", x.rule(0, 7, 0), BAD);
        due("two", x.count(4), 2);
        x.rule(0, 0, 0);
        due("none", x.count(4), 0);
        due("none", x.undo(), NO);
        due("the finds stay", x.count(1), 2);
        x.find(0, 1, 5);
        due("one told behind it may be", x.undo(), 2);
        due("no more", x.undo(), NO);
        for (int k = 1; k < 8; k++) {
            x.rule(0, 0, 0);
        }
        x.drop(0);
        due("a ninth law is refused", x.rule(0, 0, 0), FULL);
        due("and does not matter", x.undo(), 2);
    }

    private static void undoFindsOnly() {
        sentence("UNDO: how many FINDS there are then.");
        PastBets x = new PastBets();
        x.find(0, 1, 3);
        x.bet(0, 0, 0, 1, 1);
        x.price(0, 0, 0, 1, 1);
        x.type('a');
        x.chance(0, 0, 0);
        x.off();
        x.bet(1, 1, 1, 2, 2);
        due("bets and prices are no steps", x.count(4), 1);
        due("how many", x.undo(), 0);
        due("all else stays", x.digest(), mixed(0, 0, 1, 1, 0, 1, 1, 1, 1, 2, 2, 0, 0, 0, 1, 1, 3, 10));
        x.find(0, 1, 3);
        x.undo();
        due("what was undone does not come again", x.undo(), NO);
    }

    private static void undoNone() {
        sentence("NO: none may be.");
        PastBets x = new PastBets();
        due("of a new object", x.undo(), NO);
        x.find(0, 1, 3);
        x.past();
        due("behind past", x.undo(), NO);
        refused("both", x, 0, 2, 0);
    }

    private static void imagesAreTwo() {
        sentence("IMAGES 0, 1 keep all");
        PastBets x = new PastBets();
        due("image -1", x.image(-1), BAD);
        due("image 2", x.image(2), BAD);
        due("from -1", x.from(-1), BAD);
        due("from 2", x.from(2), BAD);
        due("image 0", x.image(0), 1);
        x.find(3, 1, 2);
        due("image 1", x.image(1), 1);
        x.from(0);
        due("the first has none", x.count(1), 0);
        x.from(1);
        due("the second has one", x.count(1), 1);
        x.find(3, 1, 2);
        x.image(0);
        x.past();
        x.from(0);
        due("the later takes the place of the earlier", x.count(1), 2);
        x.from(1);
        due("the other stays", x.count(1), 1);
    }

    private static void imagesKeep() {
        sentence("keep all but them, THE TEXT, THE FRACTION and STATUS;");
        PastBets x = fullOfAll();
        long before = x.digest();
        long weight = x.weighs(127);
        x.past();
        x.rule(1, 0, 0);
        x.find(0, 1, 2);
        x.bet(0, 0, 0, 1, 1);
        x.price(0, 0, 0, 1, 1);
        due("weights of another past", x.weighs(127), 0);
        due("from", x.from(0), 1);
        due("all", x.digest(), before);
        due("weights", x.weighs(127), weight);
    }

    private static void imagesKeepNot() {
        sentence("but them, THE TEXT, THE FRACTION and STATUS;");
        PastBets x = someOfAll();
        x.clear();
        x.type('z');
        x.ifFound(0, 6, 6, 6, 1, 3);
        x.count(6);
        x.find(0, 0, 0);
        x.image(1);
        due("from", x.from(0), 1);
        due("THE TEXT stays as it is", x.count(5), 1);
        fraction("THE FRACTION stays as it is", x, 3, 10);
        refused("STATUS stays as it is", x, 1, 0, 0);
        due("the other image stays as it is", x.from(1), 1);
        due("it has a find more", x.count(1), 3);
    }

    private static void imagesKeepUndo() {
        sentence("what may be undone they keep;");
        PastBets x = new PastBets();
        for (int k = 1; k <= 9; k++) {
            x.find(0, 1, k);
        }
        x.drop(0);
        x.image(0);
        x.past();
        x.find(5, 1, 1);
        x.from(0);
        due("eight", x.count(4), 8);
        due("the drop", x.undo(), 9);
        due("the ninth", x.undo(), 8);
        due("as it was", x.weighs(1), 40320);
        x.find(0, 1, 10);
        x.rule(0, 0, 0);
        due("none behind a law", x.undo(), NO);
        due("from again", x.from(0), 1);
        due("eight again", x.count(4), 8);
        x.undo();
        for (int k = 9; k >= 3; k--) {
            due("step of find " + k, x.undo(), k - 1);
        }
        due("as it was", x.weighs(1), 2);
        due("no more", x.undo(), NO);
        PastBets lawful = new PastBets();
        lawful.find(0, 1, 1);
        lawful.image(1);
        lawful.rule(0, 0, 0);
        lawful.from(1);
        due("an image from ahead of the law", lawful.undo(), 0);
    }

    private static void goesOnFromOne() {
        sentence("it goes on from one.");
        PastBets x = new PastBets();
        x.rule(0, 0, 1);
        x.find(0, 1, 8);
        x.bet(0, 0, 0, 1, 1);
        x.image(1);
        long before = x.digest();
        for (int round = 0; round < 3; round++) {
            due("the next law", x.rule(1, 2, 3), 1);
            due("the next find", x.find(1, 1, 8), 1);
            due("the next bet", x.bet(0, 0, 0, 1, 1), 1);
            due("from", x.from(1), 1);
            due("the image does not change", x.digest(), before);
        }
    }

    private static void noneWasKept() {
        sentence("NO: none was kept.");
        PastBets x = new PastBets();
        x.find(0, 1, 8);
        x.image(1);
        long before = x.digest();
        due("the other", x.from(0), NO);
        due("nothing changes", x.digest(), before);
        refused("one", x, 0, 1, 0);
        due("this one was", x.from(1), 1);
    }

    private static void dropMovesTheRest() {
        sentence("A FIND is dropped, those behind it have a number less: how many are left.");
        PastBets x = new PastBets();
        for (int k = 0; k < 10; k++) {
            x.find(k % 7, k % 2, k);
        }
        due("find -1", x.drop(-1), BAD);
        due("find 10", x.drop(10), BAD);
        due("the last", x.drop(9), 9);
        due("it is no more", x.drop(9), BAD);
        due("the first", x.drop(0), 8);
        due("one between", x.drop(3), 7);
        due("the others, in order", x.digest(), mixed(0, 7, 0, 0, 8, 0, 1, 1, 1, 2, 0, 2, 3, 1, 3, 5, 1, 5, 6, 0, 6,
            0, 1, 7, 1, 0, 8, 0, 1));
        for (int left = 6; left >= 0; left--) {
            due("left", x.drop(0), left);
        }
        due("none is left", x.drop(0), BAD);
        due("weights as without any", x.weighs(99), 1);
    }

    private static void offAndForget() {
        sentence("All BETS are off: how many there were.");
        PastBets x = fullOfAll();
        due("eight", x.off(), 8);
        due("none", x.off(), 0);
        due("a bet that is off is none", x.of(0, 0), BAD);
        due("prices stay", x.count(3), 6);
        due("the next", x.bet(0, 0, 0, 1, 1), 0);
        sentence("No PRICES: how many there were.");
        due("six", x.forget(), 6);
        due("none", x.forget(), 0);
        due("bets stay", x.count(2), 1);
        due("the next", x.price(0, 0, 0, 1, 1), 1);
        due("neither is a step", x.count(4), 8);
    }

    private static void clearedText() {
        sentence("THE TEXT is empty: how many it had.");
        PastBets x = new PastBets();
        due("of a new object", x.clear(), 0);
        typeText(x, "past;rule 0 0 1;");
        due("sixteen", x.clear(), 16);
        due("none", x.clear(), 0);
        due("an empty one is read", x.read(), -10);
        for (int c = 0; c < 128; c++) {
            due("byte " + c, x.type(c), c + 1);
        }
        sentence("A byte (0 .. 127) comes behind THE TEXT: how many it has. BAD; FULL.");
        due("byte -1", x.type(-1), BAD);
        due("byte 128", x.type(128), BAD);
        for (int c = 128; c < 150; c++) {
            due("byte " + c, x.type(' '), c + 1);
        }
        due("a hundred and fifty-first", x.type(' '), FULL);
        due("BAD is first", x.type(-1), BAD);
        due("all of it", x.clear(), 150);
        due("it begins anew", x.type('p'), 1);
        refused("all told", x, 3, 0, 1);
    }

    private static void countsOfAll() {
        sentence("How many: 0 LAWS, 1 FINDS, 2 BETS, 3 PRICES, 4 that may be undone, 5 bytes of THE TEXT. BAD.");
        PastBets x = fullOfAll();
        int[] most = {8, 10, 8, 6, 8, 150};
        int[] some = {2, 2, 3, 2, 2, 16};
        for (int what = 0; what < 6; what++) {
            due("of a new object, " + what, new PastBets().count(what), 0);
            due("some of " + what, someOfAll().count(what), some[what]);
            due("the most of " + what, x.count(what), most[what]);
        }
        due("what -1", x.count(-1), BAD);
        due("what 6", x.count(6), BAD);
    }

    private static void digestOfAll() {
        sentence("h = 1031; then h = 31 h + v for each v: count(0) to count(5);");
        due("of a new object", new PastBets().digest(), mixed(0, 0, 0, 0, 0, 0, 0, 1));
        PastBets x = someOfAll();
        due("of some", x.digest(), mixed(2, 2, 3, 2, 2, 16, 0, 0, 1, 2, 3, 4, 0, 1, 6, 5, 0, 3, 2, 0, 1, 10, 3,
            1, 5, 5, 20, 2, 3, 4, 6, 5, 0, 0, 0, 0, 9, 1, 4, 5, 6, 2, 0, x.part(0), x.part(1)));
        long before = x.digest();
        due("it changes nothing", x.digest(), before);
        x.undo();
        x.undo();
        x.off();
        x.forget();
        due("what was taken away does not count", x.digest(), mixed(2, 0, 0, 0, 0, 16, 0, 0, 1, 2, 3, 4, x.part(0),
            x.part(1)));
        x.bet(0, 0, 0, 10, 3);
        x.mean();
        due("a fraction below 0", x.digest(), mixed(2, 0, 1, 0, 0, 16, 0, 0, 1, 2, 3, 4, 0, 0, 0, 10, 3, x.part(0),
            x.part(1)));
        must("it is below 0", x.part(0) < 0);
    }

    private static void callsTo512() {
        sentence("An object is used for at most 512 calls after it has been made; what later calls answer is free.");
        PastBets x = new PastBets();
        for (int call = 1; call < 512; call++) {
            x.type(128);
        }
        due("the 512th", x.status(0), 511);
        PastBets y = new PastBets();
        for (int call = 1; call < 512; call++) {
            y.image(call % 2);
        }
        due("the 512th, behind images", y.from(1), 1);
        PastBets z = new PastBets();
        for (int call = 1; call <= 510; call++) {
            due("find and undo", call % 2 == 1 ? z.find(6, 1, 7) : z.undo(), 0);
        }
        due("the 511th", z.find(6, 1, 7), 0);
        due("the 512th, behind finds undone", z.weighs(64), 7);
    }
}
