import java.util.ArrayList;
import java.util.Arrays;
import java.util.List;
import java.util.Random;

/**
 * Holds runs of calls against a plain model of the document: all 6^6 allocations are tried, a bid is cut up at its
 * signs, and its fault is found by following one character after the other. The seeds are fixed.
 */
public final class ReferenceTest {
    private static final int RUNS = 300;
    private static final int CALLS = 512;

    /** The document's words, as directly as they can be written. */
    private static final class Model {
        final int[] cash = new int[5];
        final int[] escrow = new int[5];
        final int[] reserve = new int[6];
        final String[] bid = new String[5];
        final int[][] worth = new int[5][64];
        final int[] owner = new int[6];
        final int[] paid = new int[5];
        String text = "";
        int seller = 0;
        boolean closed = false;

        // Found by the last look at all allocations.
        int[] bestOwners;
        int bestWelfare;
        final int[] welfareWithout = new int[5];

        boolean fund(int b, int n) {
            if (b < 0 || b > 4 || n < 1 || n > 100000 || cash[b] + escrow[b] + n > 1000000) return false;
            cash[b] += n;
            return true;
        }

        boolean deposit(int b, int n) {
            if (closed || b < 0 || b > 4 || n < 1 || n > cash[b]) return false;
            cash[b] -= n;
            escrow[b] += n;
            return true;
        }

        boolean withdraw(int b) {
            if (closed || b < 0 || b > 4) return false;
            setBid(b, null);
            cash[b] += escrow[b];
            escrow[b] = 0;
            return true;
        }

        boolean reserve(int i, int n) {
            if (closed || i < 0 || i > 5 || n < 0 || n > 999) return false;
            reserve[i] = n;
            return true;
        }

        boolean type(char c) {
            if (c < 32 || c > 126 || text.length() == 40) return false;
            text += c;
            return true;
        }

        int submit(int b) {
            if (closed || b < 0 || b > 4) return -2;
            String read = text;
            text = "";
            int fault = faultOf(read);
            if (fault >= 0) return fault;
            if (table(read)[63] > escrow[b]) return -3;
            setBid(b, read);
            return -1;
        }

        void setBid(int b, String text) {
            bid[b] = text;
            worth[b] = text == null ? new int[64] : table(text);
        }

        int worth(int b, int set) {
            return b < 0 || b > 4 || set < 0 || set > 63 ? -2 : worth[b][set];
        }

        int parts(int b) {
            return b < 0 || b > 4 ? -2 : bid[b] == null ? 0 : countParts(bid[b]);
        }

        int welfare(int b) {
            if (b < -1 || b > 4) return -2;
            tryAllAllocations();
            return b == -1 ? bestWelfare : welfareWithout[b];
        }

        int close() {
            if (closed) return -2;
            tryAllAllocations();
            for (int i = 0; i < 6; i++) owner[i] = bestOwners[i];
            for (int b = 0; b < 5; b++) {
                int set = 0;
                for (int i = 0; i < 6; i++) if (owner[i] == b) set += 1 << i;
                paid[b] = welfareWithout[b] - bestWelfare + worth[b][set];
                if (paid[b] < 0 || paid[b] > escrow[b]) throw new IllegalStateException("the model is wrong");
                seller += paid[b];
                cash[b] += escrow[b] - paid[b];
                escrow[b] = 0;
            }
            closed = true;
            return bestWelfare;
        }

        boolean reopen() {
            if (!closed) return false;
            for (int b = 0; b < 5; b++) setBid(b, null);
            closed = false;
            return true;
        }

        // In the order of the document's ties, so that the first of several stays the best.
        void tryAllAllocations() {
            bestWelfare = -1;
            Arrays.fill(welfareWithout, -1);
            int[] sets = new int[6];
            for (int code = 0; code < 46656; code++) {
                Arrays.fill(sets, 0);
                int rest = code;
                for (int i = 5; i >= 0; i--) {
                    sets[rest % 6] |= 1 << i;
                    rest /= 6;
                }
                int sum = 0;
                for (int i = 0; i < 6; i++) if ((sets[0] >> i & 1) == 1) sum += reserve[i];
                for (int b = 0; b < 5; b++) sum += worth[b][sets[b + 1]];
                if (sum > bestWelfare) {
                    bestWelfare = sum;
                    bestOwners = ownersOf(sets);
                }
                for (int b = 0; b < 5; b++) {
                    if (sets[b + 1] == 0) welfareWithout[b] = Math.max(welfareWithout[b], sum);
                }
            }
        }

        static int[] ownersOf(int[] sets) {
            int[] owners = new int[6];
            for (int i = 0; i < 6; i++) {
                for (int o = 0; o < 6; o++) if ((sets[o] >> i & 1) == 1) owners[i] = o - 1;
            }
            return owners;
        }
    }

    private static int countParts(String bid) {
        int count = 0;
        for (int i = 0; i < bid.length(); i++) {
            char c = bid.charAt(i);
            if ("^+<".indexOf(c) >= 0) count++;
            boolean letter = c >= 'a' && c <= 'f';
            boolean afterLetter = i > 0 && bid.charAt(i - 1) >= 'a' && bid.charAt(i - 1) <= 'f';
            if (letter && !afterLetter) count++;
        }
        return count;
    }

    /** -1 for a bid, else the fault; the mode says what stands before the next character. */
    private static int faultOf(String text) {
        String mode = "atom";
        int depth = 0;
        int digits = 0;
        int parts = 0;
        String letters = "";
        for (int i = 0; i < text.length(); i++) {
            char c = text.charAt(i);
            boolean digit = c >= '0' && c <= '9';
            boolean letter = c >= 'a' && c <= 'f';
            boolean ended = mode.equals("letters") || mode.equals("capped") || mode.equals("bracket");
            if (mode.equals("atom") && c == '(' && depth < 8) {
                depth++;
            } else if (mode.equals("atom") && digit) {
                parts++;
                digits = 1;
                mode = "number";
            } else if (mode.equals("number") && digit && digits < 3) {
                digits++;
            } else if (mode.equals("number") && letter) {
                letters = "" + c;
                mode = "letters";
            } else if (mode.equals("letters") && letter && letters.indexOf(c) < 0) {
                letters += c;
            } else if (mode.equals("cap") && digit) {
                digits = 1;
                mode = "capped";
            } else if (mode.equals("capped") && digit && digits < 3) {
                digits++;
            } else if (ended && c == ')' && depth > 0) {
                depth--;
                mode = "bracket";
            } else if (ended && (c == '^' || c == '+')) {
                parts++;
                mode = "atom";
            } else if (ended && c == '<') {
                parts++;
                mode = "cap";
            } else {
                return i;
            }
            if (parts == 13) return i;
        }
        boolean whole = mode.equals("letters") || mode.equals("capped") || mode.equals("bracket");
        return whole && depth == 0 ? -1 : text.length();
    }

    private static List<String> cut(String bid, char sign) {
        List<String> pieces = new ArrayList<>();
        int depth = 0;
        int from = 0;
        for (int i = 0; i < bid.length(); i++) {
            char c = bid.charAt(i);
            if (c == '(') depth++;
            if (c == ')') depth--;
            if (c == sign && depth == 0) {
                pieces.add(bid.substring(from, i));
                from = i + 1;
            }
        }
        pieces.add(bid.substring(from));
        return pieces;
    }

    private static int[] table(String bid) {
        List<String> pieces = cut(bid, '^');
        char sign = '^';
        if (pieces.size() == 1) {
            pieces = cut(bid, '+');
            sign = '+';
        }
        if (pieces.size() > 1) {
            // From the right, while the program goes from the left: the order must not matter.
            int last = pieces.size() - 1;
            int[] all = table(pieces.get(last));
            for (int i = last - 1; i >= 0; i--) {
                int[] one = table(pieces.get(i));
                all = sign == '^' ? greater(one, all) : sum(one, all);
            }
            return all;
        }
        pieces = cut(bid, '<');
        int[] values = atom(pieces.get(0));
        for (int i = 1; i < pieces.size(); i++) {
            int cap = Integer.parseInt(pieces.get(i));
            for (int set = 0; set < 64; set++) values[set] = Math.min(values[set], cap);
        }
        return values;
    }

    private static int[] atom(String text) {
        if (text.charAt(0) == '(') return table(text.substring(1, text.length() - 1));
        int digits = 0;
        while (text.charAt(digits) <= '9') digits++;
        int letters = 0;
        for (char c : text.substring(digits).toCharArray()) letters |= 1 << "abcdef".indexOf(c);
        int[] values = new int[64];
        for (int set = 0; set < 64; set++) {
            if ((letters & ~set) == 0) values[set] = Integer.parseInt(text.substring(0, digits));
        }
        return values;
    }

    private static int[] greater(int[] x, int[] y) {
        int[] values = new int[64];
        for (int set = 0; set < 64; set++) values[set] = Math.max(x[set], y[set]);
        return values;
    }

    private static int[] sum(int[] x, int[] y) {
        int[] values = new int[64];
        for (int one = 0; one < 64; one++) {
            for (int other = 0; other < 64; other++) {
                if ((one & other) != 0) continue;
                for (int set = 0; set < 64; set++) {
                    if (((one | other) & ~set) == 0) values[set] = Math.max(values[set], x[one] + y[other]);
                }
            }
        }
        return values;
    }

    private final Random random;
    private final int run;
    private final BundleAuction real = new BundleAuction();
    private final Model model = new Model();
    private final StringBuilder told = new StringBuilder();
    private final int[] answers;
    private int calls = 0;
    private boolean agrees = true;

    private ReferenceTest(int run, int[] answers) {
        this.run = run;
        this.random = new Random(run);
        this.answers = answers;
    }

    private void same(String call, int got, int want) {
        calls++;
        told.append("  ").append(call).append(" answered ").append(got).append('\n');
        if (got != want) {
            agrees = false;
            System.out.println("run " + run + ":\n" + told + "  and due is " + want);
        }
    }

    private void same(String call, boolean got, boolean want) {
        same(call, got ? 1 : 0, want ? 1 : 0);
    }

    private int pick(int... from) {
        return from[random.nextInt(from.length)];
    }

    // Mostly one of the first count numbers, now and then one beside them.
    private int near(int count) {
        if (random.nextInt(20) > 0) return random.nextInt(count);
        return pick(-1, -2, count, count + 1, Integer.MIN_VALUE, Integer.MAX_VALUE);
    }

    // Few different small numbers, as ties are what is hard.
    private int price() {
        return random.nextInt(8) == 0 ? random.nextInt(1000) : random.nextInt(7);
    }

    private String someBundle() {
        StringBuilder letters = new StringBuilder("abcdef");
        StringBuilder bundle = new StringBuilder().append(price());
        int count = 1 + random.nextInt(pick(1, 2, 3, 6));
        for (int i = 0; i < count; i++) {
            int at = random.nextInt(letters.length());
            bundle.append(letters.charAt(at));
            letters.deleteCharAt(at);
        }
        return bundle.toString();
    }

    private String someBid(int size) {
        if (size <= 1) return someBundle();
        int left = 1 + random.nextInt(size - 1);
        switch (random.nextInt(5)) {
            case 0: return "(" + someBid(size - 1) + ")<" + price();
            case 1: return "(" + someBid(size) + ")";
            case 2: return someBid(left) + "^" + someBid(size - left);
            case 3: return "(" + someBid(left) + ")+" + someBid(size - left);
            default: return someBid(left) + "+" + someBid(size - left);
        }
    }

    private String someText() {
        String text = someBid(1 + random.nextInt(pick(2, 4, 7, 9)));
        for (int i = 0; i < 8 && text.length() > 40; i++) text = someBid(1 + random.nextInt(4));
        if (random.nextInt(4) == 0) text = spoil(text);
        if (random.nextInt(12) == 0) text = "((((((((".substring(random.nextInt(3)) + text;
        return text;
    }

    private String spoil(String text) {
        int at = random.nextInt(text.length() + 1);
        String some = "" + "0123456789abcdefg^+<() ~".charAt(random.nextInt(24));
        switch (random.nextInt(3)) {
            case 0: return text.substring(0, at);
            case 1: return text.substring(0, at) + some + text.substring(at);
            default: return text.substring(0, at) + some + text.substring(Math.min(at + 1, text.length()));
        }
    }

    private void typeAndSubmit() {
        for (char c : someText().toCharArray()) same("type(" + c + ")", real.type(c), model.type(c));
        int b = near(5);
        int answer = model.submit(b);
        answers[answer + 3]++;
        same("submit(" + b + ")", real.submit(b), answer);
    }

    private void change() {
        int b = near(5);
        int i = near(6);
        int n = random.nextInt(6) == 0 ? pick(0, -1, 1, 999, 1000, 100000, 100001, Integer.MAX_VALUE) : price();
        switch (random.nextInt(9)) {
            case 0: same("fund(" + b + ", " + n + ")", real.fund(b, n), model.fund(b, n)); break;
            case 1: same("deposit(" + b + ", " + n + ")", real.deposit(b, n), model.deposit(b, n)); break;
            case 2: if (random.nextInt(3) == 0) same("withdraw(" + b + ")", real.withdraw(b), model.withdraw(b)); break;
            case 3: same("reserve(" + i + ", " + n + ")", real.reserve(i, n), model.reserve(i, n)); break;
            case 4: if (random.nextInt(3) == 0) same("close()", real.close(), model.close()); break;
            case 5: same("reopen()", real.reopen(), model.reopen()); break;
            case 6: if (random.nextInt(9) == 0) {
                char c = (char) pick(0, 31, 32, 126, 127, 65535, 'a');
                same("type(code " + (int) c + ")", real.type(c), model.type(c));
            } break;
            default: typeAndSubmit();
        }
    }

    private void look() {
        int b = near(5);
        int i = near(6);
        int set = near(64);
        same("worth(" + b + ", " + set + ")", real.worth(b, set), model.worth(b, set));
        same("parts(" + b + ")", real.parts(b), model.parts(b));
        same("cash(" + b + ")", real.cash(b), b < 0 || b > 4 ? -2 : model.cash[b]);
        same("escrow(" + b + ")", real.escrow(b), b < 0 || b > 4 ? -2 : model.escrow[b]);
        same("owner(" + i + ")", real.owner(i), !model.closed || i < 0 || i > 5 ? -2 : model.owner[i]);
        same("paid(" + b + ")", real.paid(b), !model.closed || b < 0 || b > 4 ? -2 : model.paid[b]);
        same("seller()", real.seller(), model.seller);
        same("state()", real.state(), model.closed ? 1 : 0);
        int w = near(6) - 1;
        if (random.nextInt(3) == 0) same("welfare(" + w + ")", real.welfare(w), model.welfare(w));
    }

    private void closeAndLook() {
        same("close()", real.close(), model.close());
        for (int i = 0; i < 6; i++) same("owner(" + i + ")", real.owner(i), model.closed ? model.owner[i] : -2);
        for (int b = 0; b < 5; b++) {
            same("paid(" + b + ")", real.paid(b), model.closed ? model.paid[b] : -2);
            same("cash(" + b + ")", real.cash(b), model.cash[b]);
            same("escrow(" + b + ")", real.escrow(b), model.escrow[b]);
            for (int set = 1; set < 64; set += 1 + random.nextInt(40)) {
                same("worth(" + b + ", " + set + ")", real.worth(b, set), model.worth(b, set));
            }
        }
        same("seller()", real.seller(), model.seller);
        same("reopen()", real.reopen(), model.reopen());
    }

    private boolean play() {
        for (int b = 0; b < 5; b++) {
            int n = pick(20, 100, 5000, 100000);
            same("fund(" + b + ", " + n + ")", real.fund(b, n), model.fund(b, n));
        }
        while (agrees && calls < CALLS - 110) {
            for (int b = 0; b < 5; b++) {
                int n = model.cash[b] / pick(1, 2, 10);
                same("deposit(" + b + ", " + n + ")", real.deposit(b, n), model.deposit(b, n));
            }
            int changes = 4 + random.nextInt(12);
            for (int k = 0; k < changes && agrees && calls < CALLS - 110; k++) {
                change();
                if (random.nextInt(3) == 0) look();
            }
            if (agrees) closeAndLook();
        }
        return agrees;
    }

    private static BundleAuction rich() {
        BundleAuction real = new BundleAuction();
        real.fund(0, 100000);
        real.deposit(0, 100000);
        return real;
    }

    /** Every text of up to five characters of those that matter, and what becomes of it. */
    private static boolean shortTexts() {
        char[] some = "19ab^+<()g ".toCharArray();
        int count = some.length + 1;
        boolean agrees = true;
        BundleAuction real = rich();
        for (int code = 0; code < count * count * count * count * count; code++) {
            // A text takes at most seven calls, and nothing is promised of an object behind its 512th.
            if (code % 70 == 0) real = rich();
            StringBuilder text = new StringBuilder();
            for (int rest = code; rest > 0; rest /= count) {
                if (rest % count > 0) text.append(some[rest % count - 1]);
            }
            for (int i = 0; i < text.length(); i++) real.type(text.charAt(i));
            int got = real.submit(0);
            int want = faultOf(text.toString());
            if (got != want) {
                agrees = false;
                System.out.println("'" + text + "' answered " + got + ", due is " + want);
            } else if (want == -1 && real.worth(0, 63) != table(text.toString())[63]) {
                agrees = false;
                System.out.println("'" + text + "' is worth " + real.worth(0, 63));
            }
        }
        return agrees;
    }

    public static void main(String[] args) {
        boolean agrees = shortTexts();
        int[] answers = new int[64];
        for (int run = 1; run <= RUNS && agrees; run++) agrees = new ReferenceTest(run, answers).play();
        // Runs that never reach an answer would show nothing about it.
        for (int answer = 0; answer < 24 && agrees; answer++) {
            if (answers[answer] == 0) {
                agrees = false;
                System.out.println("no submit of the runs answered " + (answer - 3));
            }
        }
        System.out.println(agrees ? "all answers are as the model's" : "an answer is not as the model's");
        if (!agrees) System.exit(1);
    }
}
