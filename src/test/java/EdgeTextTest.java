/** The edges of THE TEXT: its length, its tokens, what can not stand where, what is kept. A sentence, a test. */
public final class EdgeTextTest extends Checks {
    private static final int MOST_BYTES = 150;
    private static final String[] ROWS = {"rule 0 0 0;", "find 0 0 0;", "bet 0 0 0 1 0;"};

    public static void main(String[] args) {
        textOfBytes();
        itemsEndedByStop();
        pastFirst();
        rulesFindsBets();
        wordsOfLetters();
        figures();
        blanksBetween();
        wordThatIsNone();
        pastAgain();
        aheadOfPast();
        ninthRule();
        eleventhFind();
        ninthBet();
        thirdFigure();
        numberNotAsTold();
        byteThatBeginsNone();
        firstTokenThatCanNotStand();
        endsTooEarly();
        emptyText();
        cutAnywhere();
        readTakesThePlace();
        readKeeps();
        readLeavesNoneToUndo();
        faultAllStays();
        finish("EdgeTextTest");
    }

    /** A text is put to an object that has something of all; a fault must change nothing, and is no refusal. */
    private static void fault(String text, int place) {
        PastBets x = someOfAll();
        typeText(x, text);
        long before = x.digest();
        due("fault of <" + text + ">", x.read(), -10 - place);
        due("all stays behind <" + text + ">", x.digest(), before);
        refused("a fault is no refusal", x, 0, 0, 0);
    }

    private static void items(String text, int many) {
        due("items of <" + text + ">", readText(new PastBets(), text), many);
    }

    private static void textOfBytes() {
        sentence("THE PAST is told by a TEXT (150 bytes at most) of ITEMS");
        PastBets x = new PastBets();
        String most = "past;" + "find 0 0 0;".repeat(10) + "bet 0 0 0 1 0;rule 0 0 0;";
        most = most.replaceFirst(";", " ".repeat(MOST_BYTES - most.length()) + ";");
        due("150 bytes are read", readText(x, most), 13);
        due("they stay", x.count(5), MOST_BYTES);
        due("one more", x.type(';'), FULL);
        due("it is not there", x.count(5), MOST_BYTES);
        due("they are read again", x.read(), 13);
        fault("past;" + " ".repeat(144) + "-", MOST_BYTES - 1);
        fault("past" + " ".repeat(146), MOST_BYTES);
    }

    private static void itemsEndedByStop() {
        sentence("of ITEMS, each ended by ; :");
        items("past;", 1);
        items("past;rule 0 0 0;", 2);
        fault("past rule 0 0 0;", 5);
        fault("past;rule 0 0 0 find 0 0 0;", 16);
        fault("past;rule 0 0 0 0;", 16);
        fault("past;;", 5);
        fault("past;rule 0 0 0;;", 16);
        fault("past;rule;", 9);
        fault("past;bet 0 0 0 1;", 16);
    }

    private static void pastFirst() {
        sentence("past (once, first of all);");
        items("past;", 1);
        fault("past;past;", 5);
        fault("find 0 0 0;past;", 0);
        fault("past 0;", 5);
    }

    private static void rulesFindsBets() {
        sentence("rule KIND a b; find a v r; bet KIND a b STAKE ODDS.");
        PastBets x = new PastBets();
        due("the least numbers", readText(x, "past;rule 0 0 0;find 0 0 0;bet 0 0 0 1 0;"), 4);
        due("a rule that is always kept", x.possible(NONE), 128);
        due("a find that is never true", x.settled(0, 0, 0), 1);
        due("the least stake", x.of(0, 3), 1);
        due("the greatest numbers", readText(x, "past;rule 3 6 6;find 6 1 10;bet 5 6 6 99 99;"), 4);
        due("a find that is always true", x.settled(0, 6, 6), 1);
        int[] row = {5, 6, 6, 99, 99};
        for (int what = 0; what < 5; what++) {
            due("of the bet, " + what, x.of(0, what), row[what]);
        }
        due("all numbers apart", readText(x, "past;rule 0 1 2;find 3 1 4;bet 5 2 3 44 55;"), 4);
        x.clear();
        due("each is as told", x.digest(),
            mixed(1, 1, 1, 0, 0, 0, 0, 1, 2, 3, 1, 4, 5, 2, 3, 44, 55, 0, 1));
        due("in any order", readText(x, "past;bet 0 0 0 1 0;find 1 1 9;rule 0 1 2;find 2 0 3;"), 5);
        due("one rule", x.count(0), 1);
        due("two finds, as they come", x.drop(0), 1);
        due("the second", x.weighs(4), 7);
        due("one bet", x.count(2), 1);
    }

    private static void wordsOfLetters() {
        sentence("TOKENS: words of letters a .. z,");
        fault("Past;", 0);
        fault("past;Rule 0 0 0;", 5);
        fault("past;rulE 0 0 0;", 5);
        fault("pastrule 0 0 0;", 0);
        fault("pasta;", 0);
        fault("pastz;", 0);
        fault("past;rulea 0 0 0;", 5);
        fault("past;rulez 0 0 0;", 5);
        fault("past;rulerule 0 0 0;", 5);
        fault("past;a;", 5);
        fault("past;z;", 5);
        fault("past;rule 0 z 0;", 12);
        fault("past;`", 5);
        fault("past;{", 5);
    }

    private static void figures() {
        sentence("figures (1 or 2 are one number)");
        PastBets x = new PastBets();
        due("one or two", readText(x, "past;bet 5 06 0 9 10;find 00 01 10;"), 3);
        due("06", x.of(0, 1), 6);
        due("9", x.of(0, 3), 9);
        due("10", x.of(0, 4), 10);
        fault("past;rule 0 12 ;", 12);
        fault("past;rule 0 01;", 14);
        fault("past;rule 0 0 /;", 14);
        fault("past;rule 0 0 :;", 14);
    }

    private static void blanksBetween() {
        sentence("blanks (32) between.");
        items("   past  ;   rule   0   0   0   ;   ", 2);
        items("past;rule 0 0 0 ;find 0 0 0;", 3);
        items("past;rule0 0 0;", 2);
        fault("past;rule 0 1 2 3;", 16);
        fault("pa st;", 0);
        fault("past;ru le 0 0 0;", 5);
        fault("past;find 0 0 1 0;", 16);
        for (int c : new int[] {0, 9, 10, 13, 31, 33, 127}) {
            fault("past" + (char) c + ";", 4);
        }
    }

    private static void wordThatIsNone() {
        sentence("(a word that is none,");
        for (String word : new String[] {"p", "r", "rul", "rules", "fin", "finds", "be", "bets", "price", "pasts"}) {
            fault("past;" + word + " 0 0 0 1 1;", 5);
            fault("past; " + word, 6);
        }
        for (String word : new String[] {"past", "rule", "find", "bet"}) {
            for (int at = 0; at < word.length(); at++) {
                String other = word.substring(0, at) + "x" + word.substring(at + 1);
                fault((word.equals("past") ? "" : "past;") + other + " 0 0 0 1 1;", word.equals("past") ? 0 : 5);
            }
        }
        fault("pas;", 0);
        fault("pasts;", 0);
        fault("past;rule 0 0 0; ;", 17);
    }

    private static void pastAgain() {
        sentence("past again,");
        fault("past;past;", 5);
        fault("past; past", 6);
        fault("past past;", 5);
        fault("past;rule 0 0 0;past;", 16);
        fault("past;rule past", 10);
    }

    private static void aheadOfPast() {
        sentence("anything ahead of it,");
        fault("rule 0 0 0;", 0);
        fault("  find 0 0 0;", 2);
        fault("bet 0 0 0 1 1;past;", 0);
        fault(";past;", 0);
        fault("1past;", 0);
        fault(" \tpast;", 1);
    }

    private static void tooMany(int which, int most) {
        String full = "past;" + ROWS[which].repeat(most);
        String word = ROWS[which].substring(0, ROWS[which].indexOf(' '));
        items(full, most + 1);
        fault(full + ROWS[which], full.length());
        fault(full + " " + word, full.length() + 1);
        fault(full + word + " 9", full.length());
        for (int other = 0; other < 3; other++) {
            if (other != which && full.length() + ROWS[other].length() <= MOST_BYTES) {
                items(full + ROWS[other], most + 2);
            }
        }
    }

    private static void ninthRule() {
        sentence("a 9th rule,");
        tooMany(0, 8);
    }

    private static void eleventhFind() {
        sentence("an 11th find,");
        tooMany(1, 10);
    }

    private static void ninthBet() {
        sentence("a 9th bet at its word,");
        tooMany(2, 8);
    }

    private static void thirdFigure() {
        sentence("a third figure's number,");
        fault("past;rule 000 0 0;", 10);
        fault("past;rule 0 0 001;", 14);
        fault("past;find 0 0 010;", 14);
        fault("past;find 0 0 100", 14);
        fault("past;bet 0 0 0 100 1;", 15);
        fault("past;bet 0 0 0 1 0000000000000001;", 17);
        fault("past;bet 0 0 0 1 99999999999;", 17);
        fault("123", 0);
    }

    private static void numbersNotAsTold(String word, int[] most) {
        for (int k = 0; k < most.length; k++) {
            StringBuilder text = new StringBuilder("past;" + word);
            for (int i = 0; i < k; i++) {
                text.append(' ').append(most[i]);
            }
            int place = text.length() + 1;
            if (most[k] < 99) {
                fault(text + " " + (most[k] + 1) + " 0 0;", place);
                fault(text + " 99", place);
            } else {
                fault(text + " 100 0;", place);
            }
            fault(text + " -1", place);
            fault(text + " ;", place);
            fault(text + " bet", place);
        }
    }

    private static void numberNotAsTold() {
        sentence("a number not as told,");
        numbersNotAsTold("rule", new int[] {3, 6, 6});
        numbersNotAsTold("find", new int[] {6, 1, 10});
        numbersNotAsTold("bet", new int[] {5, 6, 6, 99, 99});
        fault("past;bet 0 0 0 0 1;", 15);
        fault("past;bet 0 0 0 00 1;", 15);
        items("past;bet 0 0 0 01 00;", 2);
    }

    private static void byteThatBeginsNone() {
        sentence("a byte that begins none, too);");
        for (int c = 0; c < 128; c++) {
            boolean letter = c >= 'a' && c <= 'z';
            boolean figure = c >= '0' && c <= '9';
            if (!letter && !figure && c != ';' && c != ' ') {
                fault("past; " + (char) c + "rule 0 0 0;", 6);
                fault("past;rule 0" + (char) c, 11);
            }
        }
        fault("past -", 5);
        fault("-", 0);
    }

    private static void firstTokenThatCanNotStand() {
        sentence("FAULT: the place of the first byte of the first TOKEN that can not stand there");
        fault("past;rule 0 7 0;rule 9 0 0;-", 12);
        fault("past;find 0 0 11;past;", 14);
        fault("past;zzz 000 -", 5);
        fault("past;rule 1 zzz -", 12);
        fault("  past  ;  rule  4", 17);
    }

    private static void endsTooEarly() {
        sentence("the TEXT's length, if it ends too early");
        fault("past", 4);
        fault("past   ", 7);
        fault("past;rule", 9);
        fault("past;rule 0 0 ", 14);
        fault("past;rule 0 0 0", 15);
        fault("past;find 0 0 1", 15);
        fault("past;bet 0 0 0 9", 16);
        fault("past;bet 0 0 0 9 9 ", 19);
        items("past; ", 1);
    }

    private static void emptyText() {
        sentence("(an empty one, too).");
        fault("", 0);
        fault(" ", 1);
        fault(" ".repeat(MOST_BYTES), MOST_BYTES);
        due("of a new object", new PastBets().read(), -10);
    }

    /** A whole text, cut behind each byte: in a word, the word is none; behind a ; it is whole; else it is too short. */
    private static void cutAnywhere() {
        sentence("the first byte of the first TOKEN that can not stand there");
        String text = "past;rule 3 6 05; find 6 1 10 ;bet 5 6 0 99 12;";
        int items = 0;
        for (int length = 1; length <= text.length(); length++) {
            String cut = text.substring(0, length);
            String word = cut.replaceAll("(?s).*[^a-z]", "");
            items += cut.endsWith(";") ? 1 : 0;
            if (cut.trim().endsWith(";")) {
                items(cut, items);
            } else if (word.isEmpty() || word.matches("past|rule|find|bet")) {
                fault(cut, length);
            } else {
                fault(cut, length - word.length());
            }
        }
    }

    private static void readTakesThePlace() {
        sentence("A PAST that is read takes the place of all but IMAGES, THE TEXT, THE FRACTION, STATUS");
        PastBets x = fullOfAll();
        due("past alone", readText(x, "past;"), 1);
        for (int what = 0; what <= 4; what++) {
            due("there is none, count " + what, x.count(what), 0);
        }
        due("weights as at first", x.weighs(1), 1);
        due("possible as at first", x.possible(NONE), 128);
        due("the book as at first", x.book(0), 0);
        due("the next law is the first", x.rule(0, 0, 0), 0);
        due("the next find is the first", x.find(0, 0, 0), 0);
        due("the next bet is the first", x.bet(0, 0, 0, 1, 1), 0);
        due("the next price is the first", x.price(0, 0, 0, 1, 1), 1);
    }

    private static void readKeeps() {
        sentence("all but IMAGES, THE TEXT, THE FRACTION, STATUS");
        PastBets x = someOfAll();
        x.ifFound(0, 6, 6, 6, 1, 3);
        x.status(-1);
        x.from(1);
        for (int k = 0; k < MOST_BYTES; k++) {
            x.type(' ');
        }
        refused("ahead", x, 1, 1, 16);
        due("read", x.read(), 2);
        due("THE TEXT", x.count(5), MOST_BYTES);
        fraction("THE FRACTION", x, 3, 10);
        refused("STATUS", x, 1, 1, 16);
        due("the image that was kept", x.from(0), 1);
        due("all of it", x.count(0) + x.count(1) + x.count(2) + x.count(3) + x.count(4), 2 + 2 + 3 + 2 + 2);
        due("the image that was not", x.from(1), NO);
    }

    private static void readLeavesNoneToUndo() {
        sentence("(PRICES none; nothing to undo).");
        PastBets x = someOfAll();
        due("read", readText(x, "past;find 0 1 3;find 1 1 4;"), 3);
        due("prices", x.forget(), 0);
        due("finds that are read are no steps", x.count(4), 0);
        due("nothing to undo", x.undo(), NO);
        due("the finds stay", x.weighs(3), 12);
        x.find(2, 1, 2);
        due("one told behind may be undone", x.undo(), 2);
        due("no more", x.undo(), NO);
    }

    private static void faultAllStays() {
        sentence("-10 less the FAULT: all stays.");
        PastBets x = fullOfAll();
        x.ifFound(0, 6, 6, 6, 1, 3);
        typeText(x, "past;rule 1 1 1;find 3 1 10;bet 0 0 0 1 1;bet 0 0 0 1");
        long before = x.digest();
        long weight = x.weighs(127);
        due("fault at its end", x.read(), -10 - 53);
        due("all stays", x.digest(), before);
        due("weights stay", x.weighs(127), weight);
        x.type('0');
        x.type(';');
        due("THE TEXT stays, and may go on", x.read(), -10 - 54);
        for (int step = 0; step < 8; step++) {
            due("what may be undone stays", x.undo(), 9 - step);
        }
        x.type(';');
        due("a ; alone is not enough", x.read(), -10 - 54);
    }
}
