import java.util.Arrays;

/** An auction house that sells six items at once; README.md says how to use it. */
public final class BundleAuction {
    public static final int NONE = -1;
    public static final int REFUSED = -2;
    public static final int OVER = -3;

    private static final int ITEMS = 6;
    private static final int SETS = 64;
    private static final int ALL_ITEMS = 63;
    private static final int BIDDERS = 5;
    private static final int MOST_FUND = 100000;
    private static final int MOST_MONEY = 1000000;
    private static final int MOST_RESERVE = 999;

    private final int[] cashOf;
    private final int[] escrowOf;
    private final int[] reserveOf;
    private final int[] ownerOf;
    private final int[] paidBy;
    private final int[] partsOf;
    // A bid is kept as what it is worth for every set: nobody asks for its text again.
    private final int[][] worthOf;
    private final BidReader reader;
    private final Sharing sharing;
    private int sellerAccount;
    private boolean closed;

    public BundleAuction() {
        cashOf = new int[BIDDERS];
        escrowOf = new int[BIDDERS];
        reserveOf = new int[ITEMS];
        ownerOf = new int[ITEMS];
        paidBy = new int[BIDDERS];
        partsOf = new int[BIDDERS];
        worthOf = new int[BIDDERS][SETS];
        reader = new BidReader();
        sharing = new Sharing();
        sellerAccount = 0;
        closed = false;
    }

    public boolean fund(int bidder, int n) {
        if (!isBidder(bidder) || n < 1 || n > MOST_FUND) {
            return false;
        }
        if (cashOf[bidder] + escrowOf[bidder] + n > MOST_MONEY) {
            return false;
        }
        cashOf[bidder] += n;
        return true;
    }

    public boolean deposit(int bidder, int n) {
        if (closed || !isBidder(bidder) || n < 1 || cashOf[bidder] < n) {
            return false;
        }
        cashOf[bidder] -= n;
        escrowOf[bidder] += n;
        return true;
    }

    public boolean withdraw(int bidder) {
        if (closed || !isBidder(bidder)) {
            return false;
        }
        dropBid(bidder);
        giveBack(bidder);
        return true;
    }

    public boolean reserve(int item, int n) {
        if (closed || !isItem(item) || n < 0 || n > MOST_RESERVE) {
            return false;
        }
        reserveOf[item] = n;
        return true;
    }

    public boolean type(char c) {
        return reader.add(c);
    }

    public int submit(int bidder) {
        if (closed || !isBidder(bidder)) {
            return REFUSED;
        }
        int fault = reader.read();
        reader.empty();
        if (fault != NONE) {
            return fault;
        }
        if (reader.value[ALL_ITEMS] > escrowOf[bidder]) {
            return OVER;
        }
        System.arraycopy(reader.value, 0, worthOf[bidder], 0, SETS);
        partsOf[bidder] = reader.partCount;
        return NONE;
    }

    public int worth(int bidder, int set) {
        if (!isBidder(bidder) || set < 0 || set >= SETS) {
            return REFUSED;
        }
        return worthOf[bidder][set];
    }

    public int parts(int bidder) {
        return isBidder(bidder) ? partsOf[bidder] : REFUSED;
    }

    public int welfare(int bidder) {
        if (bidder != NONE && !isBidder(bidder)) {
            return REFUSED;
        }
        return Sharing.welfareIn(sharing.greatestScore(worthOf, reserveOf, bidder));
    }

    public int close() {
        if (closed) {
            return REFUSED;
        }
        int score = sharing.greatestScore(worthOf, reserveOf, NONE);
        Sharing.writeOwners(score, ownerOf);
        int most = Sharing.welfareIn(score);
        for (int bidder = 0; bidder < BIDDERS; bidder++) {
            settle(bidder, most);
        }
        closed = true;
        return most;
    }

    public boolean reopen() {
        if (!closed) {
            return false;
        }
        for (int bidder = 0; bidder < BIDDERS; bidder++) {
            dropBid(bidder);
        }
        closed = false;
        return true;
    }

    public int owner(int item) {
        return closed && isItem(item) ? ownerOf[item] : REFUSED;
    }

    public int paid(int bidder) {
        return closed && isBidder(bidder) ? paidBy[bidder] : REFUSED;
    }

    public int cash(int bidder) {
        return isBidder(bidder) ? cashOf[bidder] : REFUSED;
    }

    public int escrow(int bidder) {
        return isBidder(bidder) ? escrowOf[bidder] : REFUSED;
    }

    public int seller() {
        return sellerAccount;
    }

    public int state() {
        return closed ? 1 : 0;
    }

    private static boolean isBidder(int bidder) {
        return bidder >= 0 && bidder < BIDDERS;
    }

    private static boolean isItem(int item) {
        return item >= 0 && item < ITEMS;
    }

    private void dropBid(int bidder) {
        Arrays.fill(worthOf[bidder], 0);
        partsOf[bidder] = 0;
    }

    private void giveBack(int bidder) {
        cashOf[bidder] += escrowOf[bidder];
        escrowOf[bidder] = 0;
    }

    // The escrow is always enough: nobody pays more than its bid is worth, and submit held that against the escrow.
    private void settle(int bidder, int most) {
        int without = Sharing.welfareIn(sharing.greatestScore(worthOf, reserveOf, bidder));
        int payment = without - most + worthOf[bidder][setOf(bidder)];
        paidBy[bidder] = payment;
        escrowOf[bidder] -= payment;
        sellerAccount += payment;
        giveBack(bidder);
    }

    private int setOf(int bidder) {
        int set = 0;
        for (int item = 0; item < ITEMS; item++) {
            if (ownerOf[item] == bidder) {
                set |= 1 << item;
            }
        }
        return set;
    }

    /**
     * Makes total, for each set, the greatest sum of total for a part of the set and more for the rest of it.
     * The sets go downwards so that every part is still the old one when it is asked for.
     */
    private static void join(int[] total, int[] more) {
        for (int set = SETS - 1; set >= 0; set--) {
            int greatest = total[0] + more[set];
            for (int part = set; part > 0; part = (part - 1) & set) {
                greatest = Math.max(greatest, total[part] + more[set - part]);
            }
            total[set] = greatest;
        }
    }

    /**
     * Holds the text and reads it as a bid. The grammar is such that one character tells what comes next,
     * so a reading that fails always leaves place at the text's fault.
     */
    private static final class BidReader {
        private static final int MOST_CHARACTERS = 40;
        private static final int FIRST_CODE = 32;
        private static final int LAST_CODE = 126;
        private static final int MOST_PARTS = 12;
        private static final int MOST_BRACKETS = 8;
        private static final int MOST_DIGITS = 3;

        private final char[] text;
        private int length;
        private int place;
        private int number;
        private int partCount;
        // What was read last, as its worth for every set; each reading method leaves its answer here.
        private final int[] value;
        // A row for each depth of brackets, as the outer ones stay half read while an inner one is read.
        private final int[][] choices;
        private final int[][] sums;

        BidReader() {
            text = new char[MOST_CHARACTERS];
            length = 0;
            place = 0;
            number = 0;
            partCount = 0;
            value = new int[SETS];
            choices = new int[MOST_BRACKETS + 1][SETS];
            sums = new int[MOST_BRACKETS + 1][SETS];
        }

        boolean add(char c) {
            if (c < FIRST_CODE || c > LAST_CODE || length >= MOST_CHARACTERS) {
                return false;
            }
            text[length] = c;
            length++;
            return true;
        }

        void empty() {
            length = 0;
        }

        /** Answers the fault, or NONE when value and partCount tell of the bid. */
        int read() {
            place = 0;
            partCount = 0;
            return readBid(0) && place == length ? NONE : place;
        }

        // The counters only make the ends of the loops plain: the parts run out before they do.
        private boolean readBid(int depth) {
            int[] choice = choices[depth];
            Arrays.fill(choice, 0);
            for (int count = 0; count <= MOST_PARTS; count++) {
                if (!readSum(depth)) {
                    return false;
                }
                keepGreater(choice);
                if (!sees('^')) {
                    System.arraycopy(choice, 0, value, 0, SETS);
                    return true;
                }
                if (!takeSign()) {
                    return false;
                }
            }
            return false;
        }

        private boolean readSum(int depth) {
            int[] sum = sums[depth];
            Arrays.fill(sum, 0);
            for (int count = 0; count <= MOST_PARTS; count++) {
                if (!readCapped(depth)) {
                    return false;
                }
                join(sum, value);
                if (!sees('+')) {
                    System.arraycopy(sum, 0, value, 0, SETS);
                    return true;
                }
                if (!takeSign()) {
                    return false;
                }
            }
            return false;
        }

        private boolean readCapped(int depth) {
            if (!readAtom(depth)) {
                return false;
            }
            for (int count = 0; count <= MOST_PARTS; count++) {
                if (!sees('<')) {
                    return true;
                }
                if (!takeSign() || !readNumber()) {
                    return false;
                }
                capValue();
            }
            return false;
        }

        private boolean readAtom(int depth) {
            if (!sees('(')) {
                // A bundle begins with its first digit, so a thirteenth one is at fault there, whatever follows.
                return beginPart() && readNumber() && readLetters();
            }
            if (depth >= MOST_BRACKETS) {
                return false;
            }
            place++;
            if (!readBid(depth + 1) || !sees(')')) {
                return false;
            }
            place++;
            return true;
        }

        private boolean readNumber() {
            if (!seesDigit()) {
                return false;
            }
            number = 0;
            for (int digits = 0; digits < MOST_DIGITS && seesDigit(); digits++) {
                number = number * 10 + (text[place] - '0');
                place++;
            }
            return true;
        }

        // A letter that is there twice is not taken: the reading then ends in front of it, as no sign stands there.
        private boolean readLetters() {
            int letters = 0;
            for (int count = 0; count < ITEMS && seesLetter(); count++) {
                int letter = 1 << (text[place] - 'a');
                if ((letters & letter) != 0) {
                    break;
                }
                letters |= letter;
                place++;
            }
            for (int set = 0; set < SETS; set++) {
                value[set] = (set & letters) == letters ? number : 0;
            }
            return letters != 0;
        }

        private boolean takeSign() {
            if (!beginPart()) {
                return false;
            }
            place++;
            return true;
        }

        private boolean beginPart() {
            if (partCount >= MOST_PARTS) {
                return false;
            }
            partCount++;
            return true;
        }

        private boolean sees(char c) {
            return place < length && text[place] == c;
        }

        private boolean seesDigit() {
            return place < length && text[place] >= '0' && text[place] <= '9';
        }

        private boolean seesLetter() {
            return place < length && text[place] >= 'a' && text[place] <= 'f';
        }

        private void keepGreater(int[] choice) {
            for (int set = 0; set < SETS; set++) {
                choice[set] = Math.max(choice[set], value[set]);
            }
        }

        private void capValue() {
            for (int set = 0; set < SETS; set++) {
                value[set] = Math.min(value[set], number);
            }
        }
    }

    /**
     * Finds the best allocation. Each allocation has a score: its welfare times RANKS, less its rank. The rank is
     * the owners written as digits, item 0 first, 0 for the seller and 1 for bidder 0, so the greatest score
     * belongs to the best allocation alone, and its digits tell the owners.
     */
    private static final class Sharing {
        private static final int OWNERS = 6;
        private static final int RANKS = 46656;
        private static final int[] ITEM_RANK = {7776, 1296, 216, 36, 6, 1};

        private final int[] setRank;
        private final int[] total;
        private final int[] own;

        Sharing() {
            setRank = new int[SETS];
            total = new int[SETS];
            own = new int[SETS];
            for (int set = 0; set < SETS; set++) {
                setRank[set] = sumOver(ITEM_RANK, set);
            }
        }

        int greatestScore(int[][] worthOf, int[] reserveOf, int leftOut) {
            for (int set = 0; set < SETS; set++) {
                total[set] = sumOver(reserveOf, set) * RANKS;
            }
            for (int bidder = 0; bidder < BIDDERS; bidder++) {
                if (bidder != leftOut) {
                    scoreBidder(worthOf[bidder], bidder + 1);
                    join(total, own);
                }
            }
            return total[ALL_ITEMS];
        }

        static int welfareIn(int score) {
            return (score + RANKS - 1) / RANKS;
        }

        // The rank's digits stand in the order of the items, so the last item's comes off first.
        static void writeOwners(int score, int[] ownerOf) {
            int rank = welfareIn(score) * RANKS - score;
            for (int item = ITEMS - 1; item >= 0; item--) {
                ownerOf[item] = rank % OWNERS - 1;
                rank /= OWNERS;
            }
        }

        private void scoreBidder(int[] worths, int digit) {
            for (int set = 0; set < SETS; set++) {
                own[set] = worths[set] * RANKS - setRank[set] * digit;
            }
        }

        private static int sumOver(int[] numbers, int set) {
            int sum = 0;
            for (int item = 0; item < ITEMS; item++) {
                if ((set & (1 << item)) != 0) {
                    sum += numbers[item];
                }
            }
            return sum;
        }
    }
}
