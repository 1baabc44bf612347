import java.io.IOException;
import java.nio.file.Files;
import java.nio.file.Path;

/** What the tests share: comparing answers, quoting the document, and states that many of them begin with. */
abstract class Checks {
    static final int NONE = PastBets.NONE;
    static final int BAD = PastBets.BAD;
    static final int NO = PastBets.NO;
    static final int FULL = PastBets.FULL;
    private static final Path DOCUMENT = Path.of("../shared/DOC.md");
    private static final int MOST_SHOWN = 100;

    private static int wrong = 0;
    private static int compared = 0;
    private static String quoted = "";
    private static String document;

    /** What comes behind this tests these words of the document; they must stand there, or the test is out of date. */
    static void sentence(String words) {
        quoted = "\"" + words + "\": ";
        if (document == null) {
            document = folded(textOf(DOCUMENT));
        }
        if (!document.isEmpty() && !document.contains(folded(words))) {
            tell("the document does not say so");
        }
    }

    private static String textOf(Path path) {
        try {
            return Files.exists(path) ? Files.readString(path) : "";
        } catch (IOException e) {
            return "";
        }
    }

    private static String folded(String text) {
        return text.replaceAll("\\s+", " ").trim();
    }

    private static void tell(String what) {
        wrong++;
        if (wrong <= MOST_SHOWN) {
            System.out.println(quoted + what);
        }
    }

    static void due(String what, long got, long want) {
        compared++;
        if (got != want) {
            tell(what + ": answered " + got + ", due is " + want);
        }
    }

    static void must(String what, boolean so) {
        due(what, so ? 1 : 0, 1);
    }

    static void fraction(String what, PastBets x, long above, long below) {
        due(what + ", above", x.part(0), above);
        due(what + ", below", x.part(1), below);
    }

    static void refused(String what, PastBets x, int bad, int no, int full) {
        due(what + ", BAD", x.status(0), bad);
        due(what + ", NO", x.status(1), no);
        due(what + ", FULL", x.status(2), full);
    }

    static void finish(String test) {
        System.out.println(test + ": " + compared + " compared, " + wrong + " wrong");
        if (wrong != 0) {
            System.exit(1);
        }
    }

    /** The digest of these numbers. */
    static long mixed(long... values) {
        long h = 1031;
        for (long v : values) {
            h = 31 * h + v;
        }
        return h;
    }

    static void typeText(PastBets x, String text) {
        x.clear();
        for (int i = 0; i < text.length(); i++) {
            x.type(text.charAt(i));
        }
    }

    static int readText(PastBets x, String text) {
        typeText(x, text);
        return x.read();
    }

    /** Finds that rule each other out: fact 0 was surely so, and surely not. */
    static PastBets nothingFits() {
        PastBets x = new PastBets();
        x.find(0, 1, 10);
        x.find(0, 0, 10);
        return x;
    }

    /** Each fact was surely as in this past. */
    static PastBets knownPast(int past) {
        PastBets x = new PastBets();
        for (int fact = 0; fact < 7; fact++) {
            x.find(fact, past >> fact & 1, 10);
        }
        return x;
    }

    /** No fact was so, by laws alone: one past is possible, and it weighs 1. */
    static PastBets onlyPastZero() {
        PastBets x = new PastBets();
        for (int fact = 0; fact < 7; fact++) {
            x.rule(1, fact, fact);
        }
        return x;
    }

    /** Something of each sort, nothing full; two finds may be undone, image 0 was kept, image 1 was not. */
    static PastBets someOfAll() {
        PastBets x = new PastBets();
        x.rule(0, 0, 1);
        x.rule(2, 3, 4);
        x.find(0, 1, 6);
        x.find(5, 0, 3);
        x.bet(2, 0, 1, 10, 3);
        x.bet(1, 5, 5, 20, 2);
        x.bet(3, 4, 6, 5, 0);
        x.price(0, 0, 0, 9, 1);
        x.price(4, 5, 6, 2, 0);
        typeText(x, "past;rule 1 0 1;");
        x.chance(2, 0, 5);
        x.image(0);
        return x;
    }

    /** As much of each sort as there may be; something fits. */
    static PastBets fullOfAll() {
        PastBets x = new PastBets();
        for (int k = 0; k < 8; k++) {
            x.rule(k % 2 == 0 ? 0 : 3, k % 7, (k + 2) % 7);
            x.bet(k % 6, k % 7, 6 - k % 7, 99 - k, k * 12);
        }
        for (int k = 0; k < 10; k++) {
            x.find(k % 7, k % 2, 1 + k % 9);
        }
        for (int k = 0; k < 6; k++) {
            x.price(k, k, 6 - k, 15 * k, k % 2);
        }
        typeText(x, "past;" + " ".repeat(145));
        x.image(0);
        x.image(1);
        return x;
    }
}
