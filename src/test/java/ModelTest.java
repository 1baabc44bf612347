import java.math.BigInteger;
import java.util.ArrayDeque;
import java.util.ArrayList;
import java.util.Deque;
import java.util.List;
import java.util.Random;
import java.util.regex.Matcher;
import java.util.regex.Pattern;

/** Runs of drawn calls: each answer, and the digest behind it, against a slow model written from the document. */
public final class ModelTest {
    private static final int RUNS = 1500;
    private static final int CALLS = 250;

    public static void main(String[] args) {
        int wrong = 0;
        for (int run = 0; run < RUNS && wrong < 10; run++) {
            wrong += runOnce(run);
        }
        System.out.println("ModelTest: " + RUNS + " runs, " + wrong + " wrong");
        if (wrong != 0) {
            System.exit(1);
        }
    }

    private static int runOnce(int seed) {
        Random random = new Random(seed);
        Calls calls = new Calls(random);
        PastBets real = new PastBets();
        Model model = new Model();
        StringBuilder told = new StringBuilder();
        for (int i = 0; i < CALLS; i++) {
            int[] call = calls.next(model);
            long got = Calls.askReal(real, call);
            long due = Calls.askModel(model, call);
            told.append(Calls.show(call)).append(" = ").append(due).append('\n');
            boolean digestFits = real.digest() == model.digest();
            if (got != due || !digestFits) {
                System.out.println("run " + seed + ", call " + i + ": got " + got + ", due " + due
                    + (digestFits ? "" : ", the digest differs") + "\n" + told);
                return 1;
            }
        }
        return 0;
    }

    /** Which calls come, and how they are put to both. */
    private static final class Calls {
        private static final String[] NAMES = {"past", "rule", "find", "drop", "undo", "bet", "off", "type", "clear",
            "read", "of", "possible", "weighs", "heaviest", "holds", "settled", "chance", "ifFound", "book", "worst",
            "mean", "sure", "worth", "dig", "doped", "price", "forget", "told", "days", "part", "image", "from",
            "status", "count"};
        private static final int[] COMMON = {1, 2, 2, 2, 2, 3, 4, 5, 5, 5, 25, 25};
        private final Random random;
        private final Deque<Integer> typed = new ArrayDeque<>();
        private final boolean lawful;

        Calls(Random random) {
            this.random = random;
            this.lawful = random.nextBoolean();
        }

        int[] next(Model model) {
            if (!typed.isEmpty()) {
                int c = typed.poll();
                return c < 0 ? new int[] {c == -1 ? 9 : 8} : new int[] {7, c};
            }
            if (random.nextInt(25) == 0) {
                typed.add(-2);
                for (char c : text().toCharArray()) {
                    typed.add((int) c);
                }
                typed.add(-1);
                return next(model);
            }
            int name = random.nextInt(3) == 0 ? COMMON[random.nextInt(COMMON.length)] : random.nextInt(NAMES.length);
            if (name == 0 && random.nextInt(4) != 0 || name == 1 && !lawful && random.nextInt(5) != 0) {
                name = 2;
            }
            return arguments(name, model);
        }

        private int[] arguments(int name, Model model) {
            switch (name) {
                case 1:
                    return new int[] {name, upTo(3), upTo(6), upTo(6)};
                case 2:
                    return new int[] {name, upTo(6), upTo(1), share()};
                case 3:
                    return new int[] {name, upTo(Math.max(0, model.finds.size() - 1))};
                case 5:
                    return new int[] {name, upTo(5), upTo(6), upTo(6), upTo(99), odds()};
                case 7:
                    return new int[] {name, upTo(127)};
                case 10:
                    return new int[] {name, upTo(7), upTo(4)};
                case 11:
                    return new int[] {name, upTo(140) - 1};
                case 12:
                case 18:
                    return new int[] {name, upTo(127)};
                case 14:
                    return new int[] {name, upTo(5), upTo(6), upTo(6), upTo(127)};
                case 15:
                case 16:
                    return new int[] {name, upTo(5), upTo(6), upTo(6)};
                case 17:
                    return new int[] {name, upTo(5), upTo(6), upTo(6), upTo(6), upTo(1), share()};
                case 22:
                    return new int[] {name, upTo(Math.max(0, model.bets.size() - 1)), upTo(6)};
                case 23:
                    return new int[] {name, upTo(Math.max(0, model.bets.size() - 1))};
                case 25:
                    return new int[] {name, upTo(5), upTo(6), upTo(6), odds(), upTo(1)};
                case 28:
                    return new int[] {name, upTo(999999), upTo(30), upTo(5), upTo(6), upTo(6)};
                case 32:
                    return new int[] {name, upTo(2)};
                case 33:
                    return new int[] {name, upTo(5)};
                case 19:
                case 21:
                case 27:
                case 29:
                case 30:
                case 31:
                    return new int[] {name, upTo(1)};
                default:
                    return new int[] {name};
            }
        }

        private int upTo(int most) {
            int way = random.nextInt(120);
            int[] odd = {-1, most + 1, Integer.MIN_VALUE, Integer.MAX_VALUE, most, 0};
            return way < odd.length ? odd[way] : random.nextInt(most + 1);
        }

        private int share() {
            return random.nextInt(4) == 0 ? (random.nextBoolean() ? 0 : 10) : upTo(10);
        }

        private int odds() {
            return random.nextBoolean() ? random.nextInt(5) : upTo(99);
        }

        private String text() {
            StringBuilder text = new StringBuilder(random.nextInt(15) == 0 ? "" : "past;");
            int items = random.nextInt(12);
            int word = random.nextInt(6);
            for (int i = 0; i < items; i++) {
                item(text, word < 3 ? word : random.nextInt(3));
            }
            int harms = random.nextInt(2) * random.nextInt(3);
            for (int i = 0; i < harms && text.length() > 0; i++) {
                harm(text);
            }
            return text.toString();
        }

        private void item(StringBuilder text, int word) {
            int[][] most = {{3, 6, 6}, {6, 1, 10}, {5, 6, 6, 99, 99}};
            text.append(word == 0 ? "rule" : word == 1 ? "find" : "bet");
            for (int k = 0; k < most[word].length; k++) {
                text.append(k == 0 && random.nextInt(9) == 0 ? "" : random.nextInt(9) == 0 ? "  " : " ");
                int x = random.nextInt(most[word][k] + (random.nextInt(40) == 0 ? 3 : 1));
                text.append(random.nextInt(30) == 0 ? "0" : "").append(k == 3 ? Math.max(1, x) : x);
            }
            text.append(random.nextInt(9) == 0 ? " ; " : ";");
        }

        private void harm(StringBuilder text) {
            int at = random.nextInt(text.length());
            String some = " ;0129apst-Z\t";
            switch (random.nextInt(4)) {
                case 0:
                    text.deleteCharAt(at);
                    break;
                case 1:
                    text.setLength(at);
                    break;
                case 2:
                    text.insert(at, some.charAt(random.nextInt(some.length())));
                    break;
                default:
                    text.setCharAt(at, some.charAt(random.nextInt(some.length())));
                    break;
            }
        }

        static String show(int[] call) {
            StringBuilder text = new StringBuilder(NAMES[call[0]]).append('(');
            for (int i = 1; i < call.length; i++) {
                text.append(i > 1 ? ", " : "").append(call[i]);
            }
            return text.append(')').toString();
        }

        static long askReal(PastBets x, int[] c) {
            switch (NAMES[c[0]]) {
                case "past": return x.past();
                case "rule": return x.rule(c[1], c[2], c[3]);
                case "find": return x.find(c[1], c[2], c[3]);
                case "drop": return x.drop(c[1]);
                case "undo": return x.undo();
                case "bet": return x.bet(c[1], c[2], c[3], c[4], c[5]);
                case "off": return x.off();
                case "type": return x.type(c[1]);
                case "clear": return x.clear();
                case "read": return x.read();
                case "of": return x.of(c[1], c[2]);
                case "possible": return x.possible(c[1]);
                case "weighs": return x.weighs(c[1]);
                case "heaviest": return x.heaviest();
                case "holds": return x.holds(c[1], c[2], c[3], c[4]);
                case "settled": return x.settled(c[1], c[2], c[3]);
                case "chance": return x.chance(c[1], c[2], c[3]);
                case "ifFound": return x.ifFound(c[1], c[2], c[3], c[4], c[5], c[6]);
                case "book": return x.book(c[1]);
                case "worst": return x.worst(c[1]);
                case "mean": return x.mean();
                case "sure": return x.sure(c[1]);
                case "worth": return x.worth(c[1], c[2]);
                case "dig": return x.dig(c[1]);
                case "doped": return x.doped();
                case "price": return x.price(c[1], c[2], c[3], c[4], c[5]);
                case "forget": return x.forget();
                case "told": return x.told(c[1]);
                case "days": return x.days(c[1], c[2], c[3], c[4], c[5]);
                case "part": return x.part(c[1]);
                case "image": return x.image(c[1]);
                case "from": return x.from(c[1]);
                case "status": return x.status(c[1]);
                default: return x.count(c[1]);
            }
        }

        static long askModel(Model x, int[] c) {
            switch (NAMES[c[0]]) {
                case "past": return x.past();
                case "rule": return x.rule(c[1], c[2], c[3]);
                case "find": return x.find(c[1], c[2], c[3]);
                case "drop": return x.drop(c[1]);
                case "undo": return x.undo();
                case "bet": return x.bet(c[1], c[2], c[3], c[4], c[5]);
                case "off": return x.off();
                case "type": return x.type(c[1]);
                case "clear": return x.clear();
                case "read": return x.read();
                case "of": return x.of(c[1], c[2]);
                case "possible": return x.possible(c[1]);
                case "weighs": return x.weighs(c[1]);
                case "heaviest": return x.heaviest();
                case "holds": return x.holds(c[1], c[2], c[3], c[4]);
                case "settled": return x.settled(c[1], c[2], c[3]);
                case "chance": return x.chance(c[1], c[2], c[3]);
                case "ifFound": return x.ifFound(c[1], c[2], c[3], c[4], c[5], c[6]);
                case "book": return x.book(c[1]);
                case "worst": return x.worst(c[1]);
                case "mean": return x.mean();
                case "sure": return x.sure(c[1]);
                case "worth": return x.worth(c[1], c[2]);
                case "dig": return x.dig(c[1]);
                case "doped": return x.doped();
                case "price": return x.price(c[1], c[2], c[3], c[4], c[5]);
                case "forget": return x.forget();
                case "told": return x.told(c[1]);
                case "days": return x.days(c[1], c[2], c[3], c[4], c[5]);
                case "part": return x.part(c[1]);
                case "image": return x.image(c[1]);
                case "from": return x.from(c[1]);
                case "status": return x.status(c[1]);
                default: return x.count(c[1]);
            }
        }
    }

    /** The document, told plainly and slowly: lists, fractions of big integers, every set tried. */
    private static final class Model {
        List<int[]> laws = new ArrayList<>();
        List<int[]> finds = new ArrayList<>();
        List<int[]> bets = new ArrayList<>();
        List<int[]> prices = new ArrayList<>();
        List<List<int[]>> undone = new ArrayList<>();
        final List<List<List<int[]>>> images = new ArrayList<>(List.of(new ArrayList<>(), new ArrayList<>()));
        final List<List<List<int[]>>> imagesUndone = new ArrayList<>(List.of(new ArrayList<>(), new ArrayList<>()));
        String text = "";
        BigInteger above = BigInteger.ZERO;
        BigInteger below = BigInteger.ONE;
        final long[] refused = new long[3];

        private long bad(long answer) {
            refused[0]++;
            return answer;
        }

        private long no(long answer) {
            refused[1]++;
            return answer;
        }

        private long full() {
            refused[2]++;
            return -4;
        }

        private static boolean in(int x, int least, int most) {
            return x >= least && x <= most;
        }

        private static boolean claimIsBad(int kind, int a, int b) {
            return !in(kind, 0, 5) || !in(a, 0, 6) || !in(b, 0, 6);
        }

        private static boolean bit(int past, int fact) {
            return (past & 1 << fact) != 0;
        }

        private static boolean hold(int kind, int a, int b, int past) {
            switch (kind) {
                case 0: return bit(past, a);
                case 1: return !hold(0, a, b, past);
                case 2: return hold(0, a, b, past) && bit(past, b);
                case 3: return hold(0, a, b, past) || bit(past, b);
                case 4: return !hold(3, a, b, past);
                default: return hold(0, a, b, past) && !hold(2, a, b, past);
            }
        }

        private boolean mayBe(int past) {
            for (int[] law : laws) {
                int how = (bit(past, law[1]) ? 1 : 0) + (bit(past, law[2]) ? 2 : 0);
                int[] breaks = {0b0010, 0b1000, 0b0001, 0b0110};
                if ((breaks[law[0]] >> how & 1) == 1) {
                    return false;
                }
            }
            return true;
        }

        private BigInteger weight(int past, List<int[]> by) {
            BigInteger product = mayBe(past) ? BigInteger.ONE : BigInteger.ZERO;
            for (int[] f : by) {
                int share = bit(past, f[0]) == (f[1] == 1) ? f[2] : 10 - f[2];
                product = product.multiply(BigInteger.valueOf(share));
            }
            return product;
        }

        private BigInteger[] weights(List<int[]> by) {
            BigInteger[] all = new BigInteger[128];
            for (int past = 0; past < 128; past++) {
                all[past] = weight(past, by);
            }
            return all;
        }

        private static BigInteger sum(BigInteger[] weights) {
            BigInteger all = BigInteger.ZERO;
            for (BigInteger w : weights) {
                all = all.add(w);
            }
            return all;
        }

        private List<Integer> fitting(List<int[]> by) {
            List<Integer> list = new ArrayList<>();
            for (int past = 0; past < 128; past++) {
                if (weight(past, by).signum() > 0) {
                    list.add(past);
                }
            }
            return list;
        }

        private static List<int[]> and(List<int[]> by, int a, int v, int r) {
            List<int[]> more = new ArrayList<>(by);
            more.add(new int[] {a, v, r});
            return more;
        }

        private void fraction(BigInteger top, BigInteger bottom) {
            BigInteger common = top.gcd(bottom);
            above = top.divide(common);
            below = bottom.divide(common);
        }

        long past() {
            long had = finds.size();
            laws = new ArrayList<>();
            finds = new ArrayList<>();
            bets = new ArrayList<>();
            prices = new ArrayList<>();
            undone = new ArrayList<>();
            return had;
        }

        long rule(int kind, int a, int b) {
            if (!in(kind, 0, 3) || !in(a, 0, 6) || !in(b, 0, 6)) {
                return bad(-2);
            }
            if (laws.size() == 8) {
                return full();
            }
            laws.add(new int[] {kind, a, b});
            undone.clear();
            return laws.size() - 1;
        }

        private void step() {
            undone.add(new ArrayList<>(finds));
            if (undone.size() > 8) {
                undone.remove(0);
            }
        }

        long find(int a, int v, int r) {
            if (!in(a, 0, 6) || !in(v, 0, 1) || !in(r, 0, 10)) {
                return bad(-2);
            }
            if (finds.size() == 10) {
                return full();
            }
            step();
            finds.add(new int[] {a, v, r});
            return finds.size() - 1;
        }

        long drop(int find) {
            if (!in(find, 0, finds.size() - 1)) {
                return bad(-2);
            }
            step();
            finds.remove(find);
            return finds.size();
        }

        long undo() {
            if (undone.isEmpty()) {
                return no(-3);
            }
            finds = undone.remove(undone.size() - 1);
            return finds.size();
        }

        long bet(int kind, int a, int b, int stake, int odds) {
            if (claimIsBad(kind, a, b) || !in(stake, 1, 99) || !in(odds, 0, 99)) {
                return bad(-2);
            }
            if (bets.size() == 8) {
                return full();
            }
            bets.add(new int[] {kind, a, b, stake, odds});
            return bets.size() - 1;
        }

        long off() {
            long had = bets.size();
            bets = new ArrayList<>();
            return had;
        }

        long type(int c) {
            if (!in(c, 0, 127)) {
                return bad(-2);
            }
            if (text.length() == 150) {
                return full();
            }
            text += (char) c;
            return text.length();
        }

        long clear() {
            long had = text.length();
            text = "";
            return had;
        }

        long read() {
            List<String> tokens = new ArrayList<>();
            List<Integer> places = new ArrayList<>();
            Matcher matcher = Pattern.compile("[a-z]+|[0-9]+|[^ ]", Pattern.DOTALL).matcher(text);
            while (matcher.find()) {
                tokens.add(matcher.group());
                places.add(matcher.start());
            }
            places.add(text.length());
            List<List<int[]>> rows = List.of(new ArrayList<>(), new ArrayList<>(), new ArrayList<>());
            long items = 0;
            int t = 0;
            while (t < tokens.size() || items == 0) {
                String word = t < tokens.size() ? tokens.get(t) : "";
                if (items == 0 ? !word.equals("past") : !word.matches("rule|find|bet")) {
                    return -10 - places.get(t);
                }
                t++;
                if (items > 0) {
                    int which = List.of("rule", "find", "bet").indexOf(word);
                    int[][] most = {{3, 6, 6}, {6, 1, 10}, {5, 6, 6, 99, 99}};
                    if (rows.get(which).size() == (which == 1 ? 10 : 8)) {
                        return -10 - places.get(t - 1);
                    }
                    int[] row = new int[most[which].length];
                    for (int k = 0; k < row.length; k++, t++) {
                        if (t >= tokens.size() || !tokens.get(t).matches("[0-9]{1,2}")) {
                            return -10 - places.get(t);
                        }
                        row[k] = Integer.parseInt(tokens.get(t));
                        if (!in(row[k], k == 3 ? 1 : 0, most[which][k])) {
                            return -10 - places.get(t);
                        }
                    }
                    rows.get(which).add(row);
                }
                if (t >= tokens.size() || !tokens.get(t).equals(";")) {
                    return -10 - places.get(t);
                }
                t++;
                items++;
            }
            past();
            laws = rows.get(0);
            finds = rows.get(1);
            bets = rows.get(2);
            return items;
        }

        long of(int bet, int what) {
            return in(bet, 0, bets.size() - 1) && in(what, 0, 4) ? bets.get(bet)[what] : bad(-2);
        }

        long possible(int i) {
            if (i < -1) {
                return bad(-10);
            }
            List<Integer> list = new ArrayList<>();
            for (int past = 0; past < 128; past++) {
                if (mayBe(past)) {
                    list.add(past);
                }
            }
            return i == -1 ? list.size() : i < list.size() ? list.get(i) : -5;
        }

        long weighs(int past) {
            return in(past, 0, 127) ? weight(past, finds).longValueExact() : bad(-10);
        }

        long heaviest() {
            BigInteger[] w = weights(finds);
            int best = -1;
            for (int past = 127; past >= 0; past--) {
                if (w[past].signum() > 0 && (best < 0 || w[past].compareTo(w[best]) >= 0)) {
                    best = past;
                }
            }
            return best;
        }

        long holds(int kind, int a, int b, int past) {
            return claimIsBad(kind, a, b) || !in(past, 0, 127) ? bad(-2) : hold(kind, a, b, past) ? 1 : 0;
        }

        private static long settle(List<Integer> list, int kind, int a, int b) {
            long so = list.stream().filter(p -> hold(kind, a, b, p)).count();
            return list.isEmpty() ? -1 : so == list.size() ? 1 : so == 0 ? 0 : 2;
        }

        long settled(int kind, int a, int b) {
            return claimIsBad(kind, a, b) ? bad(-2) : settle(fitting(finds), kind, a, b);
        }

        private BigInteger heldWeight(BigInteger[] w, int kind, int a, int b) {
            BigInteger held = BigInteger.ZERO;
            for (int past = 0; past < 128; past++) {
                held = hold(kind, a, b, past) ? held.add(w[past]) : held;
            }
            return held;
        }

        private long chanceBy(List<int[]> by, int kind, int a, int b) {
            BigInteger[] w = weights(by);
            if (sum(w).signum() == 0) {
                return no(-3);
            }
            fraction(heldWeight(w, kind, a, b), sum(w));
            return 1;
        }

        long chance(int kind, int a, int b) {
            return claimIsBad(kind, a, b) ? bad(-2) : chanceBy(finds, kind, a, b);
        }

        long ifFound(int kind, int a, int b, int f, int v, int r) {
            if (claimIsBad(kind, a, b) || !in(f, 0, 6) || !in(v, 0, 1) || !in(r, 0, 10)) {
                return bad(-2);
            }
            return chanceBy(and(finds, f, v, r), kind, a, b);
        }

        private static long gain(int[] bet, int past) {
            return hold(bet[0], bet[1], bet[2], past) ? (long) bet[3] * bet[4] : -bet[3];
        }

        private long bookOf(int past) {
            return -bets.stream().mapToLong(bet -> gain(bet, past)).sum();
        }

        long book(int past) {
            return in(past, 0, 127) ? bookOf(past) : bad(-100000);
        }

        long worst(int what) {
            if (!in(what, 0, 1)) {
                return bad(-100000);
            }
            List<Integer> list = fitting(finds);
            if (list.isEmpty()) {
                return no(-99999);
            }
            long least = list.stream().mapToLong(this::bookOf).min().getAsLong();
            return what == 0 ? least : list.stream().filter(p -> bookOf(p) == least).findFirst().get();
        }

        long mean() {
            BigInteger[] w = weights(finds);
            if (sum(w).signum() == 0) {
                return no(-3);
            }
            BigInteger all = BigInteger.ZERO;
            for (int past = 0; past < 128; past++) {
                all = all.add(w[past].multiply(BigInteger.valueOf(bookOf(past))));
            }
            fraction(all, sum(w));
            return 1;
        }

        long sure(int what) {
            if (!in(what, 0, 1)) {
                return bad(-2);
            }
            List<Integer> list = fitting(finds);
            long bestWin = 0;
            int best = -1;
            for (int count = 1; count <= bets.size() && !list.isEmpty(); count++) {
                for (int set = 1; set < 1 << bets.size(); set++) {
                    long win = Integer.bitCount(set) == count ? leastOf(list, set) : 0;
                    if (win > bestWin) {
                        bestWin = win;
                        best = set;
                    }
                }
            }
            return best < 0 ? -1 : what == 0 ? best : bestWin;
        }

        private long leastOf(List<Integer> list, int set) {
            long least = Long.MAX_VALUE;
            for (int past : list) {
                long win = 0;
                for (int k = 0; k < bets.size(); k++) {
                    win += bit(set, k) ? gain(bets.get(k), past) : 0;
                }
                least = Math.min(least, win);
            }
            return least;
        }

        /** The mean gain of a bet taken only if it gains, times all that the pasts weigh ahead of the dig. */
        private BigInteger takenGain(int[] bet, BigInteger[] w, int fact, int so) {
            BigInteger all = BigInteger.ZERO;
            for (int past = 0; past < 128; past++) {
                if (so < 0 || bit(past, fact) == (so == 1)) {
                    all = all.add(w[past].multiply(BigInteger.valueOf(gain(bet, past))));
                }
            }
            return all.max(BigInteger.ZERO);
        }

        private BigInteger worthOf(int[] bet, BigInteger[] w, int fact) {
            return takenGain(bet, w, fact, 1).add(takenGain(bet, w, fact, 0)).subtract(takenGain(bet, w, fact, -1));
        }

        long worth(int bet, int fact) {
            if (!in(bet, 0, bets.size() - 1) || !in(fact, 0, 6)) {
                return bad(-2);
            }
            BigInteger[] w = weights(finds);
            if (sum(w).signum() == 0) {
                return no(-3);
            }
            fraction(worthOf(bets.get(bet), w, fact), sum(w));
            return 1;
        }

        long dig(int bet) {
            if (!in(bet, 0, bets.size() - 1)) {
                return bad(-2);
            }
            BigInteger[] w = weights(finds);
            if (sum(w).signum() == 0) {
                return no(-3);
            }
            int best = 6;
            for (int fact = 5; fact >= 0; fact--) {
                int by = worthOf(bets.get(bet), w, fact).compareTo(worthOf(bets.get(bet), w, best));
                best = by >= 0 ? fact : best;
            }
            return best;
        }

        long doped() {
            for (int count = 0; count <= finds.size(); count++) {
                for (int set = 0; set < 1 << finds.size(); set++) {
                    if (Integer.bitCount(set) == count && fitsWithout(set)) {
                        return set;
                    }
                }
            }
            return -1;
        }

        private boolean fitsWithout(int set) {
            List<int[]> rest = new ArrayList<>();
            for (int k = 0; k < finds.size(); k++) {
                if (!bit(set, k)) {
                    rest.add(finds.get(k));
                }
            }
            for (int past = 0; past < 128; past++) {
                if (weight(past, rest).signum() > 0) {
                    return true;
                }
            }
            return false;
        }

        long price(int kind, int a, int b, int x, int takes) {
            if (claimIsBad(kind, a, b) || !in(x, 0, 99) || !in(takes, 0, 1)) {
                return bad(-2);
            }
            if (prices.size() == 6) {
                return full();
            }
            prices.add(new int[] {kind, a, b, x, takes});
            return prices.size();
        }

        long forget() {
            long had = prices.size();
            prices = new ArrayList<>();
            return had;
        }

        private boolean explains(List<int[]> by) {
            BigInteger[] w = weights(by);
            BigInteger all = sum(w);
            if (all.signum() == 0) {
                return false;
            }
            for (int[] p : prices) {
                BigInteger held = heldWeight(w, p[0], p[1], p[2]);
                boolean gladly = held.multiply(BigInteger.valueOf(p[3])).compareTo(all.subtract(held)) > 0;
                if (gladly != (p[4] == 1)) {
                    return false;
                }
            }
            return true;
        }

        long told(int what) {
            if (!in(what, 0, 1)) {
                return bad(-2);
            }
            if (fitting(finds).isEmpty()) {
                return no(-3);
            }
            List<Integer> list = new ArrayList<>();
            for (int fact = 0; fact < 7; fact++) {
                for (int so = 0; so < 2; so++) {
                    if (explains(and(finds, fact, so, 10))) {
                        list.add(2 * fact + so);
                    }
                }
            }
            if (explains(finds)) {
                list.add(14);
            }
            return what == 0 ? list.size() : list.isEmpty() ? -1 : list.get(0);
        }

        long days(int seed, int n, int kind, int a, int b) {
            if (!in(seed, 0, 999999) || !in(n, 1, 30) || claimIsBad(kind, a, b)) {
                return bad(-2);
            }
            List<Integer> start = fitting(finds);
            if (start.isEmpty()) {
                return no(-3);
            }
            BigInteger x = BigInteger.valueOf(seed);
            long all = 0;
            for (int time = 0; time < n; time++) {
                List<Integer> list = new ArrayList<>(start);
                x = after(x);
                int truth = list.get(x.intValue() / 65536 % list.size());
                for (int day = 0; day < 40 && settle(list, kind, a, b) == 2; day++) {
                    x = after(x);
                    int fact = x.intValue() / 65536 % 7;
                    list.removeIf(p -> bit(p, fact) != bit(truth, fact));
                    all++;
                }
            }
            fraction(BigInteger.valueOf(all), BigInteger.valueOf(n));
            return 1;
        }

        private static BigInteger after(BigInteger x) {
            BigInteger next = x.multiply(BigInteger.valueOf(1103515245)).add(BigInteger.valueOf(12345));
            return next.mod(BigInteger.valueOf(2147483648L));
        }

        long part(int what) {
            return what == 0 ? above.longValueExact() : what == 1 ? below.longValueExact() : bad(-2);
        }

        private static List<List<int[]>> copy(List<List<int[]>> lists) {
            List<List<int[]>> copied = new ArrayList<>();
            for (List<int[]> list : lists) {
                copied.add(new ArrayList<>(list));
            }
            return copied;
        }

        long image(int i) {
            if (!in(i, 0, 1)) {
                return bad(-2);
            }
            images.set(i, copy(List.of(laws, finds, bets, prices)));
            imagesUndone.set(i, copy(undone));
            return 1;
        }

        long from(int i) {
            if (!in(i, 0, 1)) {
                return bad(-2);
            }
            if (images.get(i).isEmpty()) {
                return no(-3);
            }
            List<List<int[]>> lists = copy(images.get(i));
            laws = lists.get(0);
            finds = lists.get(1);
            bets = lists.get(2);
            prices = lists.get(3);
            undone = copy(imagesUndone.get(i));
            return 1;
        }

        long status(int what) {
            return in(what, 0, 2) ? refused[what] : bad(-1);
        }

        private long[] counts() {
            return new long[] {laws.size(), finds.size(), bets.size(), prices.size(), undone.size(), text.length()};
        }

        long count(int what) {
            return in(what, 0, 5) ? counts()[what] : bad(-2);
        }

        long digest() {
            long h = 1031;
            for (long v : counts()) {
                h = 31 * h + v;
            }
            for (List<int[]> rows : List.of(laws, finds, bets, prices)) {
                for (int[] row : rows) {
                    for (int v : row) {
                        h = 31 * h + v;
                    }
                }
            }
            h = 31 * h + above.longValueExact();
            return 31 * h + below.longValueExact();
        }
    }
}
