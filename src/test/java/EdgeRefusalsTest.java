import java.util.ArrayList;
import java.util.List;

/** What is refused, promise by promise: each number just outside and far outside, what comes first, what it changes. */
public final class EdgeRefusalsTest extends Checks {
    private static final int FAR = Integer.MAX_VALUE;
    private static final int CLAIM_KINDS = 5;
    private static final int LAST_FACT = 6;

    /** How a call is made with its numbers. */
    private interface Asking {
        long ask(PastBets x, int[] p);
    }

    /** An object to begin with; each test of a number takes a new one. */
    private interface Beginning {
        PastBets make();
    }

    /** A call: its answer if BAD, the least and the most of each of its numbers, and what it answers if nothing FITS. */
    private record Call(String name, String words, long bad, int[][] ranges, long ifNothingFits, Asking asking) {
        int[] least() {
            int[] numbers = new int[ranges.length];
            for (int k = 0; k < numbers.length; k++) {
                numbers[k] = ranges[k][0];
            }
            return numbers;
        }

        int[] with(int at, int number) {
            int[] numbers = least();
            numbers[at] = number;
            return numbers;
        }
    }

    private static final int ANSWERS = 1;

    public static void main(String[] args) {
        for (Call call : calls(someOfAll())) {
            badNumbers(call, Checks::someOfAll);
            numbersAtTheEdge(call, Checks::someOfAll);
        }
        badComesFirst();
        fullComesLast();
        noByPromise();
        notRefused();
        whereOthersAreTold();
        statusOfCalls();
        statusOfAnotherWhat();
        refusedChangesNothing();
        anyNumbersAnywhere();
        finish("EdgeRefusalsTest");
    }

    private static int[] range(int least, int most) {
        return new int[] {least, most};
    }

    private static int[][] claim(int[]... more) {
        int[][] ranges = new int[3 + more.length][];
        ranges[0] = range(0, CLAIM_KINDS);
        ranges[1] = range(0, LAST_FACT);
        ranges[2] = range(0, LAST_FACT);
        System.arraycopy(more, 0, ranges, 3, more.length);
        return ranges;
    }

    /** Every call that takes a number, as the document tells it for an object that has so many finds and bets. */
    private static List<Call> calls(PastBets x) {
        int[] find = range(0, x.count(1) - 1);
        int[] bet = range(0, x.count(2) - 1);
        int[] fact = range(0, LAST_FACT);
        int[] past = range(0, 127);
        int[] two = range(0, 1);
        List<Call> calls = new ArrayList<>();
        calls.add(new Call("rule", "A LAW: its number. BAD; FULL: 8.", BAD, new int[][] {range(0, 3), fact, fact}, ANSWERS,
            (y, p) -> y.rule(p[0], p[1], p[2])));
        calls.add(new Call("find", "A FIND: its number. BAD; FULL: 10.", BAD, new int[][] {fact, two, range(0, 10)},
            ANSWERS, (y, p) -> y.find(p[0], p[1], p[2])));
        calls.add(new Call("drop", "how many are left. BAD.", BAD, new int[][] {find}, ANSWERS, (y, p) -> y.drop(p[0])));
        calls.add(new Call("bet", "A BET: its number. BAD; FULL: 8.", BAD, claim(range(1, 99), range(0, 99)), ANSWERS,
            (y, p) -> y.bet(p[0], p[1], p[2], p[3], p[4])));
        calls.add(new Call("type", "how many it has. BAD; FULL.", BAD, new int[][] {past}, ANSWERS,
            (y, p) -> y.type(p[0])));
        calls.add(new Call("of", "Of a BET: KIND (0), a (1), b (2), STAKE (3), ODDS (4). BAD.", BAD,
            new int[][] {bet, range(0, 4)}, ANSWERS, (y, p) -> y.of(p[0], p[1])));
        calls.add(new Call("possible", "POSSIBLE: how many (i = NONE), the i-th. -5: not so many. BAD: -10.", -10,
            new int[][] {range(NONE, FAR)}, ANSWERS, (y, p) -> y.possible(p[0])));
        calls.add(new Call("weighs", "What a PAST WEIGHS. BAD: -10.", -10, new int[][] {past}, ANSWERS,
            (y, p) -> y.weighs(p[0])));
        calls.add(new Call("holds", "Whether a CLAIM holds in a PAST (1, 0). BAD.", BAD, claim(past), ANSWERS,
            (y, p) -> y.holds(p[0], p[1], p[2], p[3])));
        calls.add(new Call("settled", "SETTLED. NONE. BAD.", BAD, claim(), NONE, (y, p) -> y.settled(p[0], p[1], p[2])));
        calls.add(new Call("chance", "CHANCE is THE FRACTION: 1. BAD; NO.", BAD, claim(), NO,
            (y, p) -> y.chance(p[0], p[1], p[2])));
        calls.add(new Call("ifFound", "IF FOUND is THE FRACTION: 1. BAD; NO:", BAD, claim(fact, two, range(0, 10)), NO,
            (y, p) -> y.ifFound(p[0], p[1], p[2], p[3], p[4], p[5])));
        addBookCalls(calls, bet, fact, past, two);
        addOtherCalls(calls, two);
        return calls;
    }

    private static void addBookCalls(List<Call> calls, int[] bet, int[] fact, int[] past, int[] two) {
        calls.add(new Call("book", "THE BOOK in a PAST (it may be below 0). BAD: -100000.", -100000, new int[][] {past},
            ANSWERS, (y, p) -> y.book(p[0])));
        calls.add(new Call("worst", "in which (1). BAD: -100000; NO: -99999.", -100000, new int[][] {two}, -99999,
            (y, p) -> y.worst(p[0])));
        calls.add(new Call("sure", "SURE: which (0; bits), how much (1). NONE. BAD.", BAD, new int[][] {two}, NONE,
            (y, p) -> y.sure(p[0])));
        calls.add(new Call("worth", "WORTH is THE FRACTION: 1. BAD; NO.", BAD, new int[][] {bet, fact}, NO,
            (y, p) -> y.worth(p[0], p[1])));
        calls.add(new Call("dig", "BEST DIG. BAD; NO.", BAD, new int[][] {bet}, NO, (y, p) -> y.dig(p[0])));
    }

    private static void addOtherCalls(List<Call> calls, int[] two) {
        calls.add(new Call("price", "A PRICE: how many there are. BAD; FULL: 6.", BAD, claim(range(0, 99), two), ANSWERS,
            (y, p) -> y.price(p[0], p[1], p[2], p[3], p[4])));
        calls.add(new Call("told", "TOLD: how many (0; of 15), the first (1; NONE). BAD; NO.", BAD, new int[][] {two}, NO,
            (y, p) -> y.told(p[0])));
        int[][] numbers = {range(0, 999999), range(1, 30), range(0, CLAIM_KINDS), range(0, LAST_FACT),
            range(0, LAST_FACT)};
        calls.add(new Call("days", "DAYS is THE FRACTION: 1. BAD; NO.", BAD, numbers, NO,
            (y, p) -> y.days(p[0], p[1], p[2], p[3], p[4])));
        calls.add(new Call("part", "THE FRACTION: above (0), below (1). BAD.", BAD, new int[][] {two}, ANSWERS,
            (y, p) -> y.part(p[0])));
        calls.add(new Call("image", "An IMAGE is kept: 1. BAD.", BAD, new int[][] {two}, ANSWERS,
            (y, p) -> y.image(p[0])));
        calls.add(new Call("from", "It goes on from an IMAGE: 1. BAD; NO: none was kept.", BAD, new int[][] {two}, ANSWERS,
            (y, p) -> y.from(p[0])));
        calls.add(new Call("status", "STATUS: BAD (0), NO (1), FULL (2). -1: another what (counts as BAD).", -1,
            new int[][] {range(0, 2)}, ANSWERS, (y, p) -> y.status(p[0])));
        calls.add(new Call("count", "5 bytes of THE TEXT. BAD.", BAD, new int[][] {range(0, 5)}, ANSWERS,
            (y, p) -> y.count(p[0])));
    }

    private static String shown(Call call, int[] numbers) {
        StringBuilder text = new StringBuilder(call.name()).append('(');
        for (int k = 0; k < numbers.length; k++) {
            text.append(k > 0 ? ", " : "").append(numbers[k]);
        }
        return text.append(')').toString();
    }

    private static List<Integer> outside(int[] range) {
        List<Integer> numbers = new ArrayList<>(List.of(range[0] - 1, Integer.MIN_VALUE));
        if (range[1] < FAR) {
            numbers.add(range[1] + 1);
            numbers.add(FAR);
            numbers.add(range[1] + 256);
            numbers.add(range[1] + 65536);
        }
        return numbers;
    }

    /** Each number in turn is not as told, all others are. */
    private static void badNumbers(Call call, Beginning beginning) {
        sentence(call.words());
        for (int at = 0; at < call.ranges().length; at++) {
            for (int number : outside(call.ranges()[at])) {
                int[] numbers = call.with(at, number);
                PastBets x = beginning.make();
                long before = x.digest();
                int bad = x.status(0);
                int no = x.status(1);
                int full = x.status(2);
                String what = shown(call, numbers);
                due(what, call.asking().ask(x, numbers), call.bad());
                due(what + " changes nothing", x.digest(), before);
                refused(what, x, bad + 1, no, full);
            }
        }
    }

    /** Each number in turn is the least and the most that is told: not BAD. */
    private static void numbersAtTheEdge(Call call, Beginning beginning) {
        sentence(call.words());
        for (int at = 0; at < call.ranges().length; at++) {
            for (int number : call.ranges()[at]) {
                int[] numbers = call.with(at, number);
                PastBets x = beginning.make();
                String what = shown(call, numbers);
                must(what + " is taken", call.asking().ask(x, numbers) != call.bad());
                due(what + " is not BAD", x.status(0), 0);
            }
        }
    }

    private static void badComesFirst() {
        for (Call call : calls(fullOfAll())) {
            badNumbers(call, Checks::fullOfAll);
        }
        for (Call call : calls(unfitting())) {
            badNumbers(call, EdgeRefusalsTest::unfitting);
        }
        sentence("the first of: BAD -2 a number is not as told; NO -3 as told; FULL -4");
        PastBets x = new PastBets();
        due("image 2, none was kept", x.from(2), BAD);
        due("image 1, none was kept", x.from(1), NO);
        refused("one of each", x, 1, 1, 0);
    }

    /** Nothing fits, all else may be asked for. */
    private static PastBets unfitting() {
        PastBets x = nothingFits();
        x.bet(0, 0, 0, 9, 9);
        x.bet(1, 0, 0, 9, 9);
        x.price(0, 0, 0, 9, 1);
        x.image(0);
        x.image(1);
        return x;
    }

    private static void fullComesLast() {
        sentence("NO -3 as told; FULL -4");
        for (String name : List.of("rule", "find", "bet", "type", "price")) {
            for (Call call : calls(fullOfAll())) {
                if (call.name().equals(name)) {
                    PastBets x = fullOfAll();
                    long before = x.digest();
                    due(name + " of the least numbers", call.asking().ask(x, call.least()), FULL);
                    due(name + " changes nothing", x.digest(), before);
                    refused(name, x, 0, 0, 1);
                }
            }
        }
    }

    private static void noByPromise() {
        for (Call call : calls(unfitting())) {
            sentence(call.words());
            if (call.ifNothingFits() != ANSWERS) {
                PastBets x = unfitting();
                long before = x.digest();
                due(call.name() + ", nothing fits", call.asking().ask(x, call.least()), call.ifNothingFits());
                due(call.name() + " changes nothing", x.digest(), before);
                refused(call.name(), x, 0, call.ifNothingFits() == NONE ? 0 : 1, 0);
            }
        }
        sentence("MEAN is THE FRACTION: 1. NO.");
        PastBets x = unfitting();
        due("mean", x.mean(), NO);
        refused("mean", x, 0, 1, 0);
    }

    private static void notRefused() {
        sentence("HEAVIEST. NONE.");
        PastBets x = unfitting();
        due("heaviest", x.heaviest(), NONE);
        sentence("DOPED, as bits. NONE.");
        x.rule(1, 0, 0);
        x.rule(2, 0, 0);
        due("doped", x.doped(), NONE);
        sentence("-5: not so many.");
        due("possible", x.possible(0), -5);
        due("possible", x.possible(FAR), -5);
        sentence("-10 less the FAULT: all stays.");
        due("read", x.read(), -10);
        refused("none of these is refused", x, 0, 0, 0);
    }

    private static void whereOthersAreTold() {
        sentence("(where others are told they count as these)");
        PastBets x = nothingFits();
        x.possible(-2);
        refused("possible", x, 1, 0, 0);
        x.weighs(128);
        refused("weighs", x, 2, 0, 0);
        x.book(-1);
        refused("book", x, 3, 0, 0);
        x.worst(2);
        refused("worst", x, 4, 0, 0);
        x.worst(1);
        refused("worst, nothing fits", x, 4, 1, 0);
        x.status(3);
        refused("status", x, 5, 1, 0);
    }

    private static void statusOfCalls() {
        sentence("STATUS: how many calls were refused as BAD, NO, FULL (each answer told so below is such a one).");
        PastBets x = new PastBets();
        refused("at first", x, 0, 0, 0);
        for (int k = 1; k <= 20; k++) {
            x.drop(0);
            x.undo();
            x.undo();
        }
        refused("BAD and NO", x, 20, 40, 0);
        for (int k = 0; k < 13; k++) {
            x.rule(0, 0, 0);
        }
        refused("FULL", x, 20, 40, 5);
        x.past();
        x.image(0);
        x.from(0);
        readText(x, "past;");
        refused("they stay over past, an image and read", x, 20, 40, 5);
    }

    private static void statusOfAnotherWhat() {
        sentence("-1: another what (counts as BAD).");
        PastBets x = new PastBets();
        due("what 3", x.status(3), -1);
        due("what -1", x.status(-1), -1);
        due("both count", x.status(0), 2);
        due("no more do", x.status(0), 2);
    }

    /** All that is kept, the steps and images too, behind one call of each kind of refusal. */
    private static void refusedChangesNothing() {
        sentence("Refused, changing nothing but STATUS,");
        PastBets x = fullOfAll();
        x.ifFound(0, 6, 6, 6, 1, 3);
        x.undo();
        x.image(1);
        x.find(0, 0, 5);
        long before = x.digest();
        for (Call call : calls(x)) {
            call.asking().ask(x, call.with(0, Integer.MIN_VALUE));
        }
        x.rule(0, 0, 0);
        x.find(0, 0, 0);
        x.bet(0, 0, 0, 1, 0);
        x.price(0, 0, 0, 0, 0);
        x.type(' ');
        due("now", x.digest(), before);
        refused("all of them", x, calls(x).size(), 0, 5);
        for (int left = 9; left > 1; left--) {
            due("the steps", x.undo(), left);
        }
        x.from(1);
        due("image 1", x.count(1), 9);
        x.from(0);
        due("image 0", x.count(1), 10);
        due("THE TEXT", x.read(), 1);
    }

    /** No numbers at all, in any state, may end in an exception; a call with one that is not as told is BAD. */
    private static void anyNumbersAnywhere() {
        sentence("BAD -2 a number is not as told;");
        int[] some = {Integer.MIN_VALUE, -65536, -2, -1, 0, 1, 5, 6, 7, 8, 10, 99, 100, 127, 128, 150, 999999, 1000000, FAR};
        List<Beginning> beginnings = List.of(PastBets::new, Checks::someOfAll, Checks::fullOfAll,
            EdgeRefusalsTest::unfitting);
        for (Beginning beginning : beginnings) {
            for (int way = 0; way < 400; way++) {
                PastBets x = beginning.make();
                for (Call call : calls(x)) {
                    anyNumbers(call, x, some, way);
                }
            }
        }
    }

    private static void anyNumbers(Call call, PastBets x, int[] some, int way) {
        int[] numbers = call.least();
        boolean told = true;
        int[][] ranges = call.ranges();
        if (call.name().equals("drop")) {
            ranges = new int[][] {range(0, x.count(1) - 1)};
        } else if (call.name().equals("of") || call.name().equals("worth") || call.name().equals("dig")) {
            ranges = ranges.clone();
            ranges[0] = range(0, x.count(2) - 1);
        }
        for (int k = 0; k < numbers.length; k++) {
            numbers[k] = some[(way * (2 * k + 1) + way / some.length + 7 * k) % some.length];
            told = told && numbers[k] >= ranges[k][0] && numbers[k] <= ranges[k][1];
        }
        int bad = x.status(0);
        long answer = call.asking().ask(x, numbers);
        String what = shown(call, numbers) + ", way " + way;
        due(what + ", BAD or not", x.status(0) - bad, told ? 0 : 1);
        if (!told && !call.name().equals("status")) {
            due(what, answer, call.bad());
        }
    }
}
