/** Goes through the promises of the document one by one: ordinary inputs, the edges it names, and wrong inputs. */
public final class PromiseTest {
    private static final int NONE = BundleAuction.NONE;
    private static final int REFUSED = BundleAuction.REFUSED;
    private static final int OVER = BundleAuction.OVER;
    private static final int[] NO_BIDDERS = {-1, -2, 5, 6, Integer.MIN_VALUE, Integer.MAX_VALUE};
    private static final int[] NO_ITEMS = {-1, -2, 6, 7, Integer.MIN_VALUE, Integer.MAX_VALUE};

    private static int wrong = 0;

    private static void due(String what, int got, int want) {
        if (got != want) {
            wrong++;
            System.out.println(what + " answered " + got + ", due is " + want);
        }
    }

    private static void due(String what, boolean got, boolean want) {
        due(what, got ? 1 : 0, want ? 1 : 0);
    }

    private static void typeText(BundleAuction x, String text) {
        for (int i = 0; i < text.length(); i++) {
            due("type of " + text.charAt(i) + " in " + text, x.type(text.charAt(i)), true);
        }
    }

    private static int bid(BundleAuction x, int bidder, String text) {
        typeText(x, text);
        return x.submit(bidder);
    }

    private static BundleAuction rich() {
        BundleAuction x = new BundleAuction();
        for (int bidder = 0; bidder < 5; bidder++) {
            due("fund", x.fund(bidder, 10000), true);
            due("deposit", x.deposit(bidder, 9000), true);
        }
        return x;
    }

    private static void fault(String text, int place) {
        BundleAuction x = rich();
        due("submit of '" + text + "'", bid(x, 2, text), place);
        due("parts after '" + text + "'", x.parts(2), 0);
        due("the text is empty after '" + text + "'", bid(x, 2, "7a"), NONE);
    }

    private static void isBid(String text, int parts, int worthOfAll) {
        BundleAuction x = rich();
        due("submit of '" + text + "'", bid(x, 2, text), NONE);
        due("parts of '" + text + "'", x.parts(2), parts);
        due("worth of '" + text + "'", x.worth(2, 63), worthOfAll);
    }

    private static void money(BundleAuction x, int bidder, int cash, int escrow) {
        due("cash(" + bidder + ")", x.cash(bidder), cash);
        due("escrow(" + bidder + ")", x.escrow(bidder), escrow);
    }

    private static void newObject() {
        due("NONE", NONE, -1);
        due("REFUSED", REFUSED, -2);
        due("OVER", OVER, -3);
        BundleAuction x = new BundleAuction();
        due("state of a new object", x.state(), 0);
        due("seller of a new object", x.seller(), 0);
        for (int bidder = 0; bidder < 5; bidder++) {
            money(x, bidder, 0, 0);
            due("parts of a new object", x.parts(bidder), 0);
            for (int set = 0; set < 64; set++) {
                due("worth of a new object", x.worth(bidder, set), 0);
            }
            due("welfare of a new object", x.welfare(bidder), 0);
        }
        due("welfare of a new object", x.welfare(NONE), 0);
        due("submit of the empty text", x.submit(0), 0);
        BundleAuction other = new BundleAuction();
        due("fund", other.fund(0, 5), true);
        money(x, 0, 0, 0);
    }

    private static void fund() {
        BundleAuction x = new BundleAuction();
        for (int bidder : NO_BIDDERS) {
            due("fund of no bidder", x.fund(bidder, 1), false);
        }
        for (int n : new int[] {0, -1, 100001, Integer.MIN_VALUE, Integer.MAX_VALUE}) {
            due("fund of " + n, x.fund(0, n), false);
        }
        money(x, 0, 0, 0);
        due("fund of 1", x.fund(0, 1), true);
        money(x, 0, 1, 0);
        due("fund of 99999", x.fund(0, 99999), true);
        for (int i = 0; i < 9; i++) {
            due("fund of 100000", x.fund(0, 100000), true);
        }
        money(x, 0, 1000000, 0);
        due("fund above a million", x.fund(0, 1), false);
        due("deposit", x.deposit(0, 400000), true);
        due("fund above a million with an escrow", x.fund(0, 1), false);
        money(x, 0, 600000, 400000);
        money(x, 1, 0, 0);
        due("close", x.close(), 0);
        due("fund when closed and full", x.fund(0, 1), false);
        due("fund when closed", x.fund(1, 100000), true);
        money(x, 1, 100000, 0);
    }

    private static void deposit() {
        BundleAuction x = new BundleAuction();
        due("deposit without cash", x.deposit(4, 1), false);
        due("fund", x.fund(4, 100), true);
        for (int bidder : NO_BIDDERS) {
            due("deposit of no bidder", x.deposit(bidder, 1), false);
        }
        for (int n : new int[] {0, -1, 101, Integer.MIN_VALUE, Integer.MAX_VALUE}) {
            due("deposit of " + n, x.deposit(4, n), false);
        }
        money(x, 4, 100, 0);
        due("deposit of 1", x.deposit(4, 1), true);
        money(x, 4, 99, 1);
        due("deposit of all", x.deposit(4, 99), true);
        money(x, 4, 0, 100);
        due("deposit of nothing left", x.deposit(4, 1), false);
        x.close();
        due("deposit when closed", x.deposit(4, 1), false);
        money(x, 4, 100, 0);
        x.reopen();
        due("deposit when open again", x.deposit(4, 1), true);
    }

    private static void withdraw() {
        BundleAuction x = new BundleAuction();
        due("withdraw of nothing", x.withdraw(0), true);
        for (int bidder : NO_BIDDERS) {
            due("withdraw of no bidder", x.withdraw(bidder), false);
        }
        x.fund(0, 50);
        x.fund(1, 50);
        x.deposit(0, 30);
        x.deposit(1, 30);
        due("bid", bid(x, 0, "30a"), NONE);
        due("bid", bid(x, 1, "20a+1b"), NONE);
        due("withdraw", x.withdraw(0), true);
        money(x, 0, 50, 0);
        money(x, 1, 20, 30);
        due("worth after withdraw", x.worth(0, 63), 0);
        due("parts after withdraw", x.parts(0), 0);
        due("parts of the other", x.parts(1), 3);
        due("welfare after withdraw", x.welfare(NONE), 21);
        x.close();
        due("withdraw when closed", x.withdraw(1), false);
        due("bid after refused withdraw", x.worth(1, 63), 21);
    }

    private static void reserve() {
        BundleAuction x = new BundleAuction();
        for (int item : NO_ITEMS) {
            due("reserve of no item", x.reserve(item, 1), false);
        }
        for (int n : new int[] {-1, 1000, Integer.MIN_VALUE, Integer.MAX_VALUE}) {
            due("reserve of " + n, x.reserve(0, n), false);
        }
        due("welfare after refused reserves", x.welfare(NONE), 0);
        int sum = 0;
        for (int item = 0; item < 6; item++) {
            due("reserve", x.reserve(item, 999 - item), true);
            sum += 999 - item;
            due("welfare of the reserves", x.welfare(NONE), sum);
        }
        due("reserve of 0", x.reserve(0, 0), true);
        due("reserve in place of another", x.reserve(5, 1), true);
        sum = sum - 999 - 994 + 1;
        due("welfare of the reserves", x.welfare(NONE), sum);
        due("close", x.close(), sum);
        due("reserve when closed", x.reserve(0, 1), false);
        due("welfare when closed", x.welfare(NONE), sum);
        x.reopen();
        due("reserves stay", x.welfare(NONE), sum);
    }

    private static void type() {
        BundleAuction x = rich();
        for (int code : new int[] {0, 9, 10, 31, 127, 128, 256 + 'a', 65535}) {
            due("type of code " + code, x.type((char) code), false);
        }
        due("submit after refused types", x.submit(0), 0);
        for (int code = 32; code <= 126; code++) {
            due("type of code " + code, x.type((char) code), true);
            x.submit(0);
        }
        StringBuilder caps = new StringBuilder("1a");
        for (int i = 0; i < 19; i++) {
            caps.append("<9");
        }
        typeText(x, caps.toString());
        due("a character behind forty", x.type('1'), false);
        due("a wrong character behind forty", x.type((char) 31), false);
        due("submit of forty characters", x.submit(0), 24);
        due("type after submit", x.type('1'), true);
        x.close();
        due("type when closed", x.type('a'), true);
        due("submit when closed", x.submit(0), REFUSED);
        x.reopen();
        x.deposit(0, 1);
        due("the text that was typed over a closing", x.submit(0), NONE);
        due("worth", x.worth(0, 1), 1);
        typeText(x, "000000000000000000000000000000000000000a");
        due("a character behind forty", x.type('a'), false);
        due("submit of forty characters", x.submit(0), 3);
    }

    private static void submitGrammar() {
        isBid("0a", 1, 0);
        isBid("000fedcba", 1, 0);
        isBid("999abcdef", 1, 999);
        isBid("07b", 1, 7);
        isBid("1a^2b", 3, 2);
        isBid("1a+2b", 3, 3);
        isBid("9a<3", 2, 3);
        isBid("9a<3<5<2<7", 5, 2);
        isBid("9a<0", 2, 0);
        isBid("((((((((1a))))))))", 1, 1);
        isBid("(((((((1a)^(2b)))))))+(3c)", 5, 5);
        isBid("(1a)+((2b))^(((3c)))", 5, 3);
        isBid("1a+1b+1c+1d+1e+1f<3", 12, 6);
        isBid("(1a+1b+1c+1d+1e+1f)<3", 12, 3);
        isBid("1a<9<9<9<9<9<9<9<9<9<9<9", 12, 1);
        isBid("999a+999b+999c+999d+999e+999f", 11, 5994);
        isBid("1a^2b+3c", 5, 5);
        isBid("2b+3c^9a<4", 6, 5);
    }

    private static void submitFaults() {
        fault("", 0);
        for (String text : new String[] {"a", "^", "+", "<", ")", " ", "g", "~", "A"}) {
            fault(text, 0);
        }
        fault("1", 1);
        fault("123", 3);
        fault("1234a", 3);
        fault("1A", 1);
        fault("1g", 1);
        fault("1^", 1);
        fault("1<", 1);
        fault("1(", 1);
        fault("1 a", 1);
        fault("1aa", 2);
        fault("1abcdefa", 7);
        fault("1abca", 4);
        fault("1a1", 2);
        fault("1a(", 2);
        fault("1a)", 2);
        fault("1a ", 2);
        fault("1a^", 3);
        fault("1a+", 3);
        fault("1a<", 3);
        fault("1a^^1a", 3);
        fault("1a+a", 3);
        fault("1a<a", 3);
        fault("1a<(", 3);
        fault("1a<1a", 4);
        fault("1a<1234", 6);
        fault("1a<12(", 5);
        fault("(", 1);
        fault("()", 1);
        fault("(1a", 3);
        fault("(1a)1", 4);
        fault("(1a)a", 4);
        fault("(1a))", 4);
        fault("(1a)(1b)", 4);
        fault("(((((((((1a)))))))))", 8);
        fault("((((((((((", 8);
        fault("1a+(((((((((1a", 11);
        fault("((((((((1a)))))))", 17);
    }

    private static void submitThirteenthPart() {
        String eleven = "1a+1b+1c+1d+1e+1f";
        fault(eleven + "+1a", 18);
        fault(eleven + "+1", 18);
        fault(eleven + "+1g", 18);
        fault(eleven + "+((1a", 20);
        fault(eleven + "+((", 20);
        fault(eleven + "+)", 18);
        fault(eleven + "+", 18);
        fault(eleven + "<1<1", 19);
        fault(eleven + "<1+1a", 19);
        fault(eleven + "<1^", 19);
        fault(eleven + "<1<", 19);
        fault(eleven + "<1)", 19);
        fault(eleven + "<1234", 21);
        fault("(" + eleven + "<1", 20);
        fault("1a+1aa" + "+1a+1a+1a+1a+1a+1a", 5);
        fault("1a<9<9<9<9<9<9<9<9<9<9<9<9", 24);
    }

    private static void submitAnswers() {
        BundleAuction x = new BundleAuction();
        x.fund(1, 100);
        x.deposit(1, 10);
        due("bid of the escrow", bid(x, 1, "10ab"), NONE);
        due("bid above the escrow", bid(x, 1, "11ab"), OVER);
        due("the text is empty after OVER", x.submit(1), 0);
        due("the bid stays after OVER", x.worth(1, 3), 10);
        due("the parts stay after OVER", x.parts(1), 1);
        due("bid above the escrow only in sum", bid(x, 1, "6a+5b"), OVER);
        due("bid that is a fault", bid(x, 1, "3a+"), 3);
        due("the bid stays after a fault", x.worth(1, 63), 10);
        due("bid whose sum can't be had", bid(x, 1, "6a+5ab"), NONE);
        due("in place of an earlier one", x.worth(1, 3), 6);
        due("parts of the later one", x.parts(1), 3);
        due("bid under a cap", bid(x, 1, "(999a+999b)<10"), NONE);
        due("bid without an escrow", bid(x, 0, "1a"), OVER);
        due("bid of nothing without an escrow", bid(x, 0, "0a"), NONE);
        due("parts of a bid of nothing", x.parts(0), 1);
        typeText(x, "9a");
        for (int bidder : NO_BIDDERS) {
            due("submit of no bidder", x.submit(bidder), REFUSED);
        }
        x.close();
        due("submit when closed", x.submit(1), REFUSED);
        x.reopen();
        x.deposit(1, 9);
        due("the text stays when refused", x.submit(1), NONE);
        due("worth", x.worth(1, 1), 9);
    }

    private static void worth() {
        BundleAuction x = rich();
        due("bid", bid(x, 3, "7ac+4b^6bc<5"), NONE);
        due("worth of nothing", x.worth(3, 0), 0);
        due("worth of a", x.worth(3, 1), 0);
        due("worth of b", x.worth(3, 2), 4);
        due("worth of ac", x.worth(3, 5), 7);
        due("worth of bc", x.worth(3, 6), 5);
        due("worth of abc", x.worth(3, 7), 11);
        due("worth of all", x.worth(3, 63), 11);
        due("bid", bid(x, 0, "5a+6a+7ab+1f"), NONE);
        due("an item counts once", x.worth(0, 1), 6);
        due("two bundles for one item", x.worth(0, 3), 7);
        due("worth of f", x.worth(0, 32), 1);
        due("worth of all", x.worth(0, 63), 8);
        due("bid", bid(x, 1, "(3a^5b)+(4a^1c)"), NONE);
        due("one side takes what the other leaves", x.worth(1, 3), 9);
        due("worth of ac", x.worth(1, 5), 4);
        due("worth of a", x.worth(1, 1), 4);
        due("worth without a bid", x.worth(4, 63), 0);
        for (int bidder : NO_BIDDERS) {
            due("worth of no bidder", x.worth(bidder, 0), REFUSED);
        }
        for (int set : new int[] {-1, 64, Integer.MIN_VALUE, Integer.MAX_VALUE}) {
            due("worth of no set", x.worth(3, set), REFUSED);
        }
        x.close();
        due("worth when closed", x.worth(3, 7), 11);
        x.reopen();
        due("worth when open again", x.worth(3, 7), 0);
    }

    private static void parts() {
        BundleAuction x = rich();
        for (int bidder : NO_BIDDERS) {
            due("parts of no bidder", x.parts(bidder), REFUSED);
        }
        due("bid", bid(x, 4, "((1a+2b)<3^4cdef)<9"), NONE);
        due("parts", x.parts(4), 7);
        due("parts of the others", x.parts(3), 0);
        x.close();
        due("parts when closed", x.parts(4), 7);
        x.reopen();
        due("parts when open again", x.parts(4), 0);
    }

    private static void welfare() {
        BundleAuction x = rich();
        bid(x, 0, "10ab");
        bid(x, 1, "6a^7c");
        bid(x, 2, "5b");
        x.reserve(3, 2);
        due("welfare of any", x.welfare(NONE), 19);
        due("welfare without 0", x.welfare(0), 14);
        due("welfare without 1", x.welfare(1), 12);
        due("welfare without 2", x.welfare(2), 19);
        due("welfare without 4", x.welfare(4), 19);
        for (int bidder : NO_BIDDERS) {
            if (bidder != NONE) {
                due("welfare without no bidder", x.welfare(bidder), REFUSED);
            }
        }
        x.reserve(0, 6);
        due("the seller's reserve counts", x.welfare(NONE), 20);
        x.close();
        due("welfare when closed", x.welfare(NONE), 20);
        due("welfare when closed without 1", x.welfare(1), 13);
        x.reopen();
        due("welfare when open again", x.welfare(NONE), 8);
    }

    private static void closeAndReopen() {
        BundleAuction x = rich();
        due("reopen when open", x.reopen(), false);
        bid(x, 0, "10ab");
        bid(x, 1, "6a");
        bid(x, 2, "7c");
        x.reserve(1, 3);
        x.reserve(2, 5);
        due("close", x.close(), 17);
        due("state", x.state(), 1);
        due("close when closed", x.close(), REFUSED);
        int[] owners = {0, 0, 2, NONE, NONE, NONE};
        for (int item = 0; item < 6; item++) {
            due("owner(" + item + ")", x.owner(item), owners[item]);
        }
        int[] paid = {9, 0, 5, 0, 0};
        for (int bidder = 0; bidder < 5; bidder++) {
            due("paid(" + bidder + ")", x.paid(bidder), paid[bidder]);
            money(x, bidder, 10000 - paid[bidder], 0);
        }
        due("seller", x.seller(), 14);
        due("reopen", x.reopen(), true);
        due("state", x.state(), 0);
        due("reopen when open", x.reopen(), false);
        for (int bidder = 0; bidder < 5; bidder++) {
            due("parts after reopen", x.parts(bidder), 0);
            due("worth after reopen", x.worth(bidder, 63), 0);
            money(x, bidder, 10000 - paid[bidder], 0);
        }
        due("seller after reopen", x.seller(), 14);
        due("welfare of the reserves after reopen", x.welfare(NONE), 8);
        x.deposit(3, 9);
        bid(x, 3, "9ab");
        due("second close", x.close(), 14);
        due("all items are there again", x.owner(0), 3);
        due("paid the reserves", x.paid(3), 3);
        due("paid the second time", x.paid(0), 0);
        due("the account goes on", x.seller(), 17);
    }

    private static void ties() {
        BundleAuction x = rich();
        bid(x, 1, "5a^5b");
        bid(x, 3, "5a^5b");
        x.reserve(2, 4);
        bid(x, 0, "4c");
        bid(x, 4, "0d");
        due("close", x.close(), 14);
        due("the lesser bidder has item 0", x.owner(0), 1);
        due("the other has item 1", x.owner(1), 3);
        due("the seller comes before all bidders", x.owner(2), NONE);
        due("nothing is bid for item 3", x.owner(3), NONE);
        x = rich();
        bid(x, 0, "5b");
        bid(x, 4, "5ab^5a");
        bid(x, 2, "5b");
        due("close", x.close(), 10);
        due("only the last bids on item 0", x.owner(0), 4);
        due("the least of two", x.owner(1), 0);
        x = rich();
        bid(x, 0, "5a+5b");
        bid(x, 1, "10ab");
        bid(x, 2, "5b");
        due("close", x.close(), 10);
        due("item 0 goes first", x.owner(0), 0);
        due("then item 1", x.owner(1), 0);
        due("paid", x.paid(0), 10);
        x = rich();
        bid(x, 0, "5a");
        bid(x, 1, "5f");
        bid(x, 2, "5af");
        bid(x, 3, "10af");
        due("close", x.close(), 10);
        due("owner of a", x.owner(0), 0);
        due("owner of f", x.owner(5), 1);
        x = rich();
        x.reserve(0, 5);
        bid(x, 0, "9ab");
        bid(x, 4, "4b");
        due("close", x.close(), 9);
        due("the seller keeps item 0", x.owner(0), NONE);
        due("though bidder 4 has item 1 then", x.owner(1), 4);
        due("paid for it", x.paid(4), 4);
    }

    private static void ownerAndPaid() {
        BundleAuction x = rich();
        for (int k = -2; k < 8; k++) {
            due("owner when open", x.owner(k), REFUSED);
            due("paid when open", x.paid(k), REFUSED);
        }
        bid(x, 4, "8f");
        bid(x, 0, "6f");
        x.close();
        for (int item : NO_ITEMS) {
            due("owner of no item", x.owner(item), REFUSED);
        }
        for (int bidder : NO_BIDDERS) {
            due("paid by no bidder", x.paid(bidder), REFUSED);
        }
        due("owner", x.owner(5), 4);
        due("paid", x.paid(4), 6);
        due("fund when closed", x.fund(4, 10), true);
        due("paid after fund", x.paid(4), 6);
        x.reopen();
        due("owner when open again", x.owner(5), REFUSED);
        due("paid when open again", x.paid(4), REFUSED);
        x.close();
        due("owner of a second closing", x.owner(5), NONE);
        due("paid in a second closing", x.paid(4), 0);
    }

    private static void accounts() {
        BundleAuction x = new BundleAuction();
        for (int bidder : NO_BIDDERS) {
            due("cash of no bidder", x.cash(bidder), REFUSED);
            due("escrow of no bidder", x.escrow(bidder), REFUSED);
        }
        for (int bidder = 0; bidder < 5; bidder++) {
            x.fund(bidder, 100 + bidder);
            x.deposit(bidder, 10 + bidder);
        }
        for (int bidder = 0; bidder < 5; bidder++) {
            money(x, bidder, 90, 10 + bidder);
        }
        due("bid of the whole escrow", bid(x, 3, "13abcdef"), NONE);
        due("bid of the whole escrow", bid(x, 4, "13abcdef"), NONE);
        due("close", x.close(), 13);
        due("paid the whole escrow", x.paid(3), 13);
        money(x, 3, 90, 0);
        money(x, 4, 104, 0);
        due("seller", x.seller(), 13);
    }

    public static void main(String[] args) {
        newObject();
        fund();
        deposit();
        withdraw();
        reserve();
        type();
        submitGrammar();
        submitFaults();
        submitThirteenthPart();
        submitAnswers();
        worth();
        parts();
        welfare();
        closeAndReopen();
        ties();
        ownerAndPaid();
        accounts();
        System.out.println(wrong == 0 ? "all answers are as due" : wrong + " answers are not as due");
        if (wrong != 0) {
            System.exit(1);
        }
    }
}
