import java.util.ArrayList;
import java.util.List;
import java.util.function.Consumer;

/**
 * One test for each sentence of the document that names a boundary case: the last value that is taken and the first
 * that is not, on both sides; and after each refused call that nothing has changed.
 */
public final class BoundaryTest {
    private static final int NONE = BundleAuction.NONE;
    private static final int REFUSED = BundleAuction.REFUSED;
    private static final int OVER = BundleAuction.OVER;
    private static final int LEAST = Integer.MIN_VALUE;
    private static final int MOST = Integer.MAX_VALUE;
    // The first beside the range on both sides, the farthest, and those that would wrap into it.
    private static final int[] NO_BIDDERS = {-1, 5, -2, 6, 63, LEAST, LEAST + 4, MOST, 1 << 16, 256};
    private static final int[] NO_ITEMS = {-1, 6, -2, 7, 63, LEAST, LEAST + 5, MOST, 1 << 16, 256};
    private static final int[] NO_SETS = {-1, 64, -2, 65, 127, 128, LEAST, LEAST + 63, MOST, 1 << 16};
    // Six bundles and five signs, so that the next part is the twelfth.
    private static final String ELEVEN = "1a+1b+1c+1d+1e+1f";
    private static final String FORTY = "999abcdef+998abcdef+997abcdef^((99abcd))";

    private static final int MOST_TOLD = 50;

    private static String sentence = "";
    private static int tests = 0;
    private static int wrong = 0;

    private static void test(String words, Runnable body) {
        sentence = words;
        tests++;
        try {
            body.run();
        } catch (RuntimeException e) {
            tell("a call threw " + e);
        }
    }

    private static void tell(String what) {
        wrong++;
        if (wrong <= MOST_TOLD) System.out.println("\"" + sentence + "\": " + what);
    }

    /** A new object; each call is told the answer that is due. Nothing is promised behind its 512th call. */
    private static final class House {
        private final BundleAuction x = new BundleAuction();
        private final StringBuilder told = new StringBuilder();
        private int calls = 0;

        private House is(String call, int got, int due) {
            count(1);
            told.append(told.length() == 0 ? "" : "; ").append(call);
            if (got != due) tell(told + " answered " + got + ", due is " + due);
            return this;
        }

        private House is(String call, boolean got, boolean due) {
            return is(call, got ? 1 : 0, due ? 1 : 0);
        }

        private void count(int more) {
            calls += more;
            if (calls > 512) throw new IllegalStateException("a test makes more than 512 calls");
        }

        House fund(int b, int n, boolean due) { return is("fund(" + b + ", " + n + ")", x.fund(b, n), due); }

        House deposit(int b, int n, boolean due) { return is("deposit(" + b + ", " + n + ")", x.deposit(b, n), due); }

        House withdraw(int b, boolean due) { return is("withdraw(" + b + ")", x.withdraw(b), due); }

        House reserve(int i, int n, boolean due) { return is("reserve(" + i + ", " + n + ")", x.reserve(i, n), due); }

        House type(int code, boolean due) { return is("type(code " + code + ")", x.type((char) code), due); }

        House submit(int b, int due) { return is("submit(" + b + ")", x.submit(b), due); }

        House worth(int b, int set, int due) { return is("worth(" + b + ", " + set + ")", x.worth(b, set), due); }

        House parts(int b, int due) { return is("parts(" + b + ")", x.parts(b), due); }

        House welfare(int b, int due) { return is("welfare(" + b + ")", x.welfare(b), due); }

        House close(int due) { return is("close()", x.close(), due); }

        House reopen(boolean due) { return is("reopen()", x.reopen(), due); }

        House owner(int i, int due) { return is("owner(" + i + ")", x.owner(i), due); }

        House paid(int b, int due) { return is("paid(" + b + ")", x.paid(b), due); }

        House cash(int b, int due) { return is("cash(" + b + ")", x.cash(b), due); }

        House escrow(int b, int due) { return is("escrow(" + b + ")", x.escrow(b), due); }

        House seller(int due) { return is("seller()", x.seller(), due); }

        House state(int due) { return is("state()", x.state(), due); }

        House text(String text) {
            int taken = 0;
            for (char c : text.toCharArray()) taken += x.type(c) ? 1 : 0;
            count(text.length() - 1);
            return is("type of '" + text + "'", taken, text.length());
        }

        House bid(int b, String text, int due) { return text(text).submit(b, due); }

        House money(int b, int cash, int escrow) { return cash(b, cash).escrow(b, escrow); }

        House owners(int... due) {
            for (int i = 0; i < 6; i++) owner(i, due[i]);
            return this;
        }

        House escrows(int n) {
            for (int b = 0; b < 5; b++) fund(b, n, true).deposit(b, n, true);
            return this;
        }

        House full(int b) {
            for (int i = 0; i < 10; i++) fund(b, 100000, true);
            return this;
        }

        /** All that the calls tell of the object, and then of its text and reserves, for which it must change it. */
        List<String> view() {
            List<String> seen = new ArrayList<>();
            seen.add("state() " + x.state());
            seen.add("seller() " + x.seller());
            for (int b = 0; b < 5; b++) {
                seen.add("cash(" + b + ") " + x.cash(b));
                seen.add("escrow(" + b + ") " + x.escrow(b));
                seen.add("parts(" + b + ") " + x.parts(b));
                seen.add("paid(" + b + ") " + x.paid(b));
                for (int set = 0; set < 64; set += set < 9 ? 1 : 9) {
                    seen.add("worth(" + b + ", " + set + ") " + x.worth(b, set));
                }
            }
            for (int b = -1; b < 5; b++) seen.add("welfare(" + b + ") " + x.welfare(b));
            for (int i = 0; i < 6; i++) seen.add("owner(" + i + ") " + x.owner(i));
            x.reopen();
            x.deposit(4, x.cash(4));
            seen.add("submit(4) behind it " + x.submit(4));
            seen.add("its parts " + x.parts(4));
            for (int set = 0; set < 64; set++) seen.add("its worth(4, " + set + ") " + x.worth(4, set));
            for (int b = 0; b < 5; b++) x.withdraw(b);
            for (int i = 0; i < 6; i++) {
                seen.add("the reserves from " + i + " on " + x.welfare(NONE));
                x.reserve(i, 0);
            }
            count(seen.size() + 14);
            return seen;
        }
    }

    /** A house in which every kind of thing is there: cash, escrows, bids, reserves and a text. */
    private static House busy() {
        House h = new House();
        for (int b = 0; b < 5; b++) h.fund(b, 1000 + b, true).deposit(b, 100 + b, true);
        for (int i = 0; i < 6; i++) h.reserve(i, 1 + i, true);
        return h.bid(0, "20ab^9c", NONE).bid(1, "16a+8d", NONE).bid(3, "30bc<25", NONE).text("4ef+1a");
    }

    private static House busyAndClosed() {
        return busy().close(60);
    }

    private static void refusedIn(boolean closed, Consumer<House> call) {
        House plain = closed ? busyAndClosed() : busy();
        House tried = closed ? busyAndClosed() : busy();
        sameBehind(plain, tried, call);
    }

    private static void sameBehind(House plain, House tried, Consumer<House> call) {
        call.accept(tried);
        String told = tried.told.toString();
        List<String> want = plain.view();
        List<String> got = tried.view();
        for (int k = 0; k < want.size(); k++) {
            if (!want.get(k).equals(got.get(k))) tell(told + "; then " + got.get(k) + ", due is " + want.get(k));
        }
    }

    private static void refused(Consumer<House> call) {
        refusedIn(false, call);
        refusedIn(true, call);
    }

    private static House taken(String text, int parts, int worthOfAll) {
        return new House().escrows(6000).bid(2, text, NONE).parts(2, parts).worth(2, 63, worthOfAll).submit(2, 0);
    }

    // The earlier bid is there so that it can be seen to stay.
    private static void fault(String text, int place) {
        new House().escrows(6000).bid(2, "7f^5e", NONE).bid(2, text, place)
            .parts(2, 3).worth(2, 63, 7).worth(2, 16, 5).money(2, 0, 6000).submit(2, 0);
    }

    private static void ranges() {
        test("ITEMS are 0 .. 5, written a .. f", () -> {
            for (int k = 0; k < 6; k++) {
                House h = taken("3" + (char) ('a' + k), 1, 3);
                for (int set = 0; set < 64; set++) h.worth(2, set, (set >> k & 1) * 3);
            }
            fault("3`", 1);
            fault("3g", 1);
            fault("3A", 1);
            fault("3F", 1);
        });
        test("a SET of items is a number 0 .. 63 with bit k for item k", () -> {
            taken("1a+2b+4c+8d+16e+32f", 11, 63).worth(2, 0, 0).worth(2, 1, 1).worth(2, 32, 32).worth(2, 62, 62)
                .worth(2, 63, 63).worth(2, -1, REFUSED).worth(2, 64, REFUSED);
        });
        test("BIDDERS are 0 .. 4", () -> {
            House h = new House();
            for (int b = 0; b < 5; b++) h.fund(b, 10 + b, true);
            for (int b = 0; b < 5; b++) h.cash(b, 10 + b);
            h.fund(-1, 1, false).fund(5, 1, false).cash(-1, REFUSED).cash(5, REFUSED);
        });
        test("CASH and an ESCROW, whole numbers from 0", () -> new House().money(0, 0, 0).fund(0, 1, true)
            .deposit(0, 1, true).money(0, 0, 1).deposit(0, 1, false).money(0, 0, 1).withdraw(0, true).money(0, 1, 0));
        test("the SELLER has an account too, 0 at first", () -> new House().seller(0));
        test("Each item has a RESERVE 0 .. 999", () -> {
            for (int i = 0; i < 6; i++) {
                new House().welfare(NONE, 0).reserve(i, 999, true).welfare(NONE, 999).reserve(i, 1000, false)
                    .reserve(i, -1, false).welfare(NONE, 999).reserve(i, 0, true).welfare(NONE, 0);
            }
        });
    }

    private static void language() {
        test("BID: one or more SUM with ^ between them", () -> {
            taken("1a", 1, 1);
            taken("1a^2b", 3, 2);
            taken("1a^2b^3c^4d^5e^6f", 11, 6);
            fault("^1a", 0);
            fault("1a^", 3);
            fault("1a^^1b", 3);
            fault("1a^+1b", 3);
        });
        test("SUM: one or more CAPPED with + between them", () -> {
            taken("1a+2b", 3, 3);
            taken("1a+2b+3c+4d+5e+6f", 11, 21);
            fault("+1a", 0);
            fault("1a+", 3);
            fault("1a++1b", 3);
            fault("1a+^1b", 3);
        });
        test("CAPPED: an ATOM, and behind it any number of < NUMBER", () -> {
            taken("9a<8", 2, 8);
            taken("9a<9<9<9<9<9<9<9<9<9<9<7", 12, 7);
            taken("(9a)<8<7", 3, 7);
            fault("<1", 0);
            fault("9a<", 3);
            fault("9a<<1", 3);
            fault("9a<8b", 4);
            fault("9a<(8)", 3);
        });
        test("ATOM: a BUNDLE, or a BID in round brackets ( )", () -> {
            taken("(1a)", 1, 1);
            taken("(1a^2b)+(3c)", 5, 5);
            fault("()", 1);
            fault("(1a", 3);
            fault("1a)", 2);
            fault("(1a))", 4);
            fault("(1a)(1b)", 4);
            fault("(1a)2b", 4);
            fault("1a(2b)", 2);
            fault("[1a]", 0);
        });
        test("at most eight such brackets around one another", () -> {
            taken("((((((((1a))))))))", 1, 1);
            taken("((((((((1a))))))))+((((((((2b))))))))", 3, 3);
            taken("(((((((1a+(2b))+(3c)))))))", 5, 6);
            fault("(((((((((1a)))))))))", 8);
            fault("(((((((((", 8);
            fault("((((((((", 8);
            fault("((((((((1a))))))))+(((((((((2b", 27);
            fault("(((((((1a+(2b+(3c", 14);
            fault("((((((((1a)))))))", 17);
            fault("((((((((1a)))))))))", 18);
        });
        test("BUNDLE: a NUMBER, and behind it one or more of the letters a .. f", () -> {
            taken("5a", 1, 5);
            taken("5abcdef", 1, 5);
            taken("5fdbeca", 1, 5);
            fault("5", 1);
            fault("5^", 1);
            fault("a", 0);
            fault("a5", 0);
        });
        test("none twice", () -> {
            for (char c = 'a'; c <= 'f'; c++) {
                fault("1" + c + c, 2);
                fault("1abcdef" + c, 7);
            }
            fault("1afa", 3);
            fault("12fef^", 4);
            taken("1a+1a", 3, 1);
        });
        test("NUMBER: one, two or three digits", () -> {
            taken("0a", 1, 0);
            taken("9a", 1, 9);
            taken("10a", 1, 10);
            taken("99a", 1, 99);
            taken("100a", 1, 100);
            taken("999a", 1, 999);
            taken("000a", 1, 0);
            taken("007a", 1, 7);
            taken("090a", 1, 90);
            fault("1000a", 3);
            fault("0000a", 3);
            fault("9a+1234", 6);
            taken("999a<0", 2, 0);
            taken("999a<99", 2, 99);
            taken("999a<998", 2, 998);
            taken("999a<010", 2, 10);
            fault("999a<1000", 8);
            fault("/a", 0);
            fault(":a", 0);
        });
        test("Nothing else stands in it, no spaces either", BoundaryTest::everyCharacterBehindEveryBeginning);
    }

    private static void everyCharacterBehindEveryBeginning() {
        String digits = "0123456789";
        follows("", digits + "(");
        follows("1", digits + "abcdef");
        follows("12", digits + "abcdef");
        follows("123", "abcdef");
        follows("1c", "abdef^+<");
        follows("1abcde", "f^+<");
        follows("1abcdef", "^+<");
        follows("1a^", digits + "(");
        follows("1a+", digits + "(");
        follows("1a<", digits);
        follows("1a<1", digits + "^+<");
        follows("1a<12", digits + "^+<");
        follows("1a<123", "^+<");
        follows("(", digits + "(");
        follows("(((((((", digits + "(");
        follows("((((((((", digits);
        follows("(1a", "bcdef^+<)");
        follows("(1a<1", digits + "^+<)");
        follows("(1a<123", "^+<)");
        follows("(1a)", "^+<");
        follows("((1a)", "^+<)");
        follows("(1a)<1", digits + "^+<");
        // Behind eleven parts, and behind twelve.
        follows(ELEVEN, "abcde^+<");
        follows(ELEVEN + "^", "(");
        follows(ELEVEN + "+", "(");
        follows(ELEVEN + "<", digits);
        follows(ELEVEN + "<1", digits);
        follows("(" + ELEVEN + "<1", digits + ")");
        follows("(" + ELEVEN + "<123", ")");
        follows("(" + ELEVEN + ")<1", digits);
    }

    private static void follows(String beginning, String characters) {
        for (int code = 32; code <= 126; code++) {
            String text = beginning + (char) code;
            House h = new House().escrows(6000).text(text);
            int answer = h.x.submit(0);
            boolean fits = answer == NONE || answer > beginning.length();
            if (fits != characters.indexOf(code) >= 0) tell("'" + text + "' answered " + answer);
        }
    }

    private static void partsAndFaults() {
        test("PARTS are every bundle, every ^, every + and every <", () -> {
            taken("123abcdef", 1, 123);
            taken("((1a))", 1, 1);
            taken("1a^1b", 3, 1);
            taken("1a+1b", 3, 2);
            taken("1a<1", 2, 1);
            taken("(1a^2b)<9+(3c<9<9)", 8, 5);
        });
        test("a bid has at most twelve", () -> {
            taken(ELEVEN, 11, 6);
            taken(ELEVEN + "<0", 12, 5);
            taken("(" + ELEVEN + ")<4", 12, 4);
            taken("1a<9^1b<9+1c<9^1d<9", 11, 2);
            fault(ELEVEN + "<0<0", 19);
            fault(ELEVEN + "+1a", 18);
            taken(FORTY.substring(0, 30) + "1a<1<1<1<1", 11, 999);
        });
        test("or at which the thirteenth part begins: a bundle", () -> {
            fault(ELEVEN + "+1a", 18);
            fault(ELEVEN + "^1a", 18);
            fault(ELEVEN + "+999abcdef", 18);
            fault(ELEVEN + "+(((1a)))", 21);
            fault("(" + ELEVEN + ")^1a", 20);
            fault("1a<1<1<1<1<1<1<1<1<1<1^1b", 23);
            fault(ELEVEN + "+1", 18);
            fault(ELEVEN + "+1g", 18);
            fault(ELEVEN + "+1111", 18);
        });
        test("or at which the thirteenth part begins: a sign", () -> {
            for (String sign : new String[] {"^", "+", "<"}) {
                fault(ELEVEN + "<1" + sign, 19);
                fault(ELEVEN + "<1" + sign + "1a", 19);
                fault("(" + ELEVEN + "<123)" + sign + "1", 23);
                fault("1a<1<1<1<1<1<1<1<1<1<1<1" + sign + "1", 24);
            }
        });
        test("the first character with which the characters up to and with it are not the beginning of any BID", () -> {
            fault("1aa" + "+1b+1c+1d+1e+1f+1a+1b+1c", 2);
            fault(ELEVEN + ")", 17);
            fault(ELEVEN + "+)", 18);
            fault(ELEVEN + "<1a", 19);
            fault(ELEVEN + "<1)", 19);
            fault(ELEVEN + "<1234", 21);
            fault("1a g", 2);
            fault("g", 0);
        });
        test("however many parts it has", () -> {
            fault(ELEVEN + "+1b g", 18);
            fault(ELEVEN + "<1<g", 19);
        });
        test("if there is none, it is the number of its characters", () -> {
            fault("", 0);
            fault("1", 1);
            fault("(", 1);
            fault("(1a+2b", 6);
            fault(ELEVEN + "<", 18);
            fault(ELEVEN + "+", 18);
            fault(ELEVEN + "+(", 19);
            fault("(" + ELEVEN + "<1", 20);
            fault("((((((((1abcdef+1abcdef+1abcdef+1abcdef+", 40);
            fault("((((((((1abcdef+1abcdef+1abcdef+1abcdef)", 40);
            fault("((((((((1abcdef+1abcdef+1abcdef+1abcdefa", 39);
        });
    }

    private static void worths() {
        test("a bundle its number, when all its letters are items of the set, else 0", () -> {
            House h = taken("5abcdef", 1, 5).worth(2, 0, 0);
            for (int k = 0; k < 6; k++) h.worth(2, 63 - (1 << k), 0).worth(2, 1 << k, 0);
            h = taken("8bd", 1, 8);
            for (int set = 0; set < 64; set++) h.worth(2, set, (set & 10) == 10 ? 8 : 0);
        });
        test("x ^ y the greater of what x and y are worth for the set", () -> {
            taken("4a^5b", 3, 5).worth(2, 1, 4).worth(2, 2, 5).worth(2, 3, 5).worth(2, 4, 0);
            taken("5a^4b", 3, 5).worth(2, 1, 5).worth(2, 2, 4).worth(2, 3, 5);
            taken("5a^5a", 3, 5).worth(2, 1, 5).worth(2, 2, 0);
            taken("0a^1ab", 3, 1).worth(2, 1, 0).worth(2, 3, 1);
        });
        test("x + y over all two sets without a common item", () -> {
            taken("4a+5a", 3, 5).worth(2, 1, 5);
            taken("4ab+5bc", 3, 5).worth(2, 3, 4).worth(2, 6, 5).worth(2, 7, 5);
            taken("4ab+5cd", 3, 9).worth(2, 15, 9);
            taken("(4a^7b)+(5b^1a)", 7, 9).worth(2, 3, 9).worth(2, 1, 4).worth(2, 2, 7);
            taken("999a+999b+999c+999d+999e+999f", 11, 5994);
        });
        test("two sets that lie in the set", () -> taken("4ab+5cd", 3, 9).worth(2, 14, 5).worth(2, 11, 4)
            .worth(2, 10, 0).worth(2, 7, 4).worth(2, 13, 5).worth(2, 0, 0));
        test("x < n what x is worth, but at most n", () -> {
            taken("5a<4", 2, 4);
            taken("5a<5", 2, 5);
            taken("5a<6", 2, 5);
            taken("5a<0", 2, 0);
            taken("5a+5b<4", 4, 9).worth(2, 2, 4);
            taken("(5a+5b)<9", 4, 9).worth(2, 2, 5);
            taken("(5a+5b)<10", 4, 10);
            taken("5a^9b<4", 4, 5);
            taken("(5a^9b)<4", 4, 4);
            taken("9a<4<6", 3, 4);
            taken("9a<6<4", 3, 4);
        });
        test("With several + or ^ in a row, the value does not hang on their order", () -> {
            String[] sums = {"3ab+4bc+2c", "4bc+3ab+2c", "2c+4bc+3ab", "(2c+4bc)+3ab", "2c+(4bc+3ab)"};
            for (String sum : sums) {
                taken(sum, 5, 5).worth(2, 1, 0).worth(2, 3, 3).worth(2, 4, 2).worth(2, 6, 4).worth(2, 7, 5);
            }
            for (String row : new String[] {"1a^3b^2ab", "3b^2ab^1a", "(2ab^1a)^3b", "2ab^(1a^3b)"}) {
                taken(row, 5, 3).worth(2, 1, 1).worth(2, 2, 3).worth(2, 3, 3);
            }
            taken("1a+2b^4c+8d", 7, 12).worth(2, 3, 3).worth(2, 9, 8);
        });
        test("A bidder without a bid has 0 for all sets", () -> {
            House h = new House().escrows(9).bid(1, "9a", NONE).withdraw(1, true);
            for (int set = 0; set < 64; set++) h.worth(0, set, 0).worth(1, set, 0);
        });
    }

    private static String both(int bit, int other) {
        return "" + (char) ('a' + bit) + (char) ('a' + other);
    }

    private static void allocations() {
        test("the reserves of the items that the seller keeps", () -> new House().escrows(999)
            .reserve(0, 5, true).reserve(5, 7, true).welfare(NONE, 12).bid(0, "8f", NONE).welfare(NONE, 13)
            .close(13).owners(NONE, NONE, NONE, NONE, NONE, 0).paid(0, 7).seller(7));
        test("the seller being less than all bidders", () -> {
            for (int b = 0; b < 5; b++) {
                new House().escrows(999).reserve(3, 5, true).bid(b, "5d", NONE).close(5).owner(3, NONE).paid(b, 0);
                new House().escrows(999).reserve(3, 5, true).bid(b, "6d", NONE).close(6).owner(3, b).paid(b, 5);
                new House().escrows(999).bid(b, "0abcdef", NONE).close(0).owner(0, NONE).paid(b, 0);
            }
        });
        test("and bidder 0 less than 1", () -> {
            for (int b = 1; b < 5; b++) {
                new House().escrows(999).bid(b, "6c", NONE).bid(b - 1, "6c", NONE).close(6).owner(2, b - 1)
                    .paid(b - 1, 6).paid(b, 0).seller(6);
                new House().escrows(999).bid(b, "7c", NONE).bid(b - 1, "6c", NONE).close(7).owner(2, b)
                    .paid(b - 1, 0).paid(b, 6);
            }
        });
        test("of several the one in which item 0 has the least owner, of those the one in which item 1 has", () -> {
            for (int i = 0; i < 6; i++) {
                for (int k = 0; k < 6; k++) {
                    if (i != k) sellerAndLastOrFirstTwice(i, k);
                }
                if (i > 0) eitherOfTwo(i - 1, i);
            }
        });
        test("The BEST allocation gives nobody what it has no use for", () -> new House().escrows(999)
            .bid(0, "5a^4ab", NONE).bid(4, "0c+3d", NONE).close(8).owners(0, NONE, NONE, 4, NONE, NONE));
        test("each of the five may get an item, and the seller one", () -> new House().escrows(999)
            .bid(0, "1f", NONE).bid(1, "2e", NONE).bid(2, "3d", NONE).bid(3, "4c", NONE).bid(4, "5b", NONE)
            .close(15).owners(NONE, 4, 3, 2, 1, 0).seller(0));
        test("one bidder may get all items, at the greatest prices", () -> new House().escrows(5994)
            .bid(3, "999a+999b+999c+999d+999e+999f", NONE).bid(4, "998a+998b+998c+998d+998e+998f", NONE)
            .close(5994).owners(3, 3, 3, 3, 3, 3).paid(3, 5988).paid(4, 0).seller(5988));
    }

    // Two allocations are best: the seller has item i and bidder 4 item k, or bidder 0 has both.
    private static void sellerAndLastOrFirstTwice(int i, int k) {
        House h = new House().escrows(999).reserve(i, 5, true).bid(0, "9" + both(i, k), NONE)
            .bid(4, "4" + (char) ('a' + k), NONE).close(9);
        boolean sellerFirst = i < k;
        h.owner(i, sellerFirst ? NONE : 0).owner(k, sellerFirst ? 4 : 0);
        h.paid(0, sellerFirst ? 0 : 9).paid(4, sellerFirst ? 4 : 0);
    }

    private static void eitherOfTwo(int first, int second) {
        String either = "5" + (char) ('a' + first) + "^5" + (char) ('a' + second);
        new House().escrows(999).bid(3, either, NONE).bid(2, either, NONE).close(10)
            .owner(first, 2).owner(second, 3).paid(2, 0).paid(3, 0);
    }

    private static void payments() {
        test("A bidder PAYS the greatest welfare of an allocation in which it gets nothing, less ..", () -> {
            new House().escrows(50).bid(0, "50a", NONE).close(50).paid(0, 0).money(0, 50, 0).seller(0);
            new House().escrows(50).bid(0, "50a", NONE).bid(1, "50a", NONE).close(50).paid(0, 50).paid(1, 0)
                .money(0, 0, 0).money(1, 50, 0).seller(50);
            new House().escrows(50).bid(0, "10ab", NONE).bid(1, "6a", NONE).bid(2, "5b", NONE).close(11)
                .owners(1, 2, NONE, NONE, NONE, NONE).paid(0, 0).paid(1, 5).paid(2, 4).seller(9);
            new House().escrows(50).reserve(0, 3, true).reserve(1, 4, true).bid(0, "8ab", NONE).close(8)
                .paid(0, 7).money(0, 43, 0).seller(7);
        });
        test("The house is OPEN (0) or CLOSED (1)", () -> new House().state(0).close(0).state(1).reopen(true).state(0));
    }

    private static void refusals() {
        Consumer<House> always = h -> h.fund(5, 1, false).fund(0, 0, false).fund(0, 100001, false)
            .deposit(-1, 1, false).deposit(0, 0, false).deposit(0, 5000, false).withdraw(5, false)
            .reserve(6, 1, false).reserve(0, 1000, false).type(31, false).type(127, false).submit(5, REFUSED)
            .worth(5, 0, REFUSED).worth(0, 64, REFUSED).parts(-1, REFUSED).welfare(-2, REFUSED).welfare(5, REFUSED)
            .owner(6, REFUSED).paid(5, REFUSED).cash(5, REFUSED).escrow(-1, REFUSED);
        test("A call that is refused changes nothing: all of them in a row, open", () -> refusedIn(false,
            always.andThen(h -> h.reopen(false).owner(0, REFUSED).paid(0, REFUSED))));
        test("A call that is refused changes nothing: all of them in a row, closed", () -> refusedIn(true,
            always.andThen(h -> h.close(REFUSED).submit(0, REFUSED).deposit(0, 1, false).withdraw(0, false)
                .reserve(0, 0, false))));
    }

    private static void constants() {
        test("NONE = -1, REFUSED = -2, OVER = -3", () -> {
            if (NONE != -1 || REFUSED != -2 || OVER != -3) tell("they are " + NONE + ", " + REFUSED + ", " + OVER);
        });
        test("1: a new object: the house is open, nobody has cash, an escrow or a bid, all reserves are 0, "
            + "the text is empty", () -> {
            new House().escrows(9).reserve(0, 9, true).text("9a");
            House h = new House().state(0).seller(0).welfare(NONE, 0);
            for (int b = 0; b < 5; b++) {
                h.money(b, 0, 0).parts(b, 0).welfare(b, 0).paid(b, REFUSED);
                for (int set = 0; set < 64; set++) h.worth(b, set, 0);
            }
            for (int i = 0; i < 6; i++) h.owner(i, REFUSED);
            h.submit(0, 0).reopen(false).close(0);
        });
        test("at most 512 calls", () -> {
            House h = new House();
            for (int call = 1; call <= 511; call++) h.fund(0, 1, true);
            h.cash(0, 511);
        });
    }

    private static void fund() {
        test("2: the house being open or closed", () -> new House().fund(3, 7, true).cash(3, 7).close(0)
            .fund(3, 8, true).cash(3, 15).escrow(3, 0).reopen(true).cash(3, 15));
        test("2: when bidder is not 0 .. 4", () -> {
            new House().fund(0, 1, true).fund(4, 1, true).cash(0, 1).cash(4, 1);
            for (int b : NO_BIDDERS) refused(h -> h.fund(b, 1, false));
        });
        test("2: n is not 1 .. 100000", () -> {
            new House().fund(0, 1, true).cash(0, 1).fund(0, 100000, true).cash(0, 100001);
            for (int n : new int[] {0, -1, 100001, LEAST, LEAST + 1, MOST}) refused(h -> h.fund(0, n, false));
        });
        test("2: its cash and escrow together would be above 1000000: cash alone", () -> {
            House h = new House();
            for (int i = 0; i < 9; i++) h.fund(1, 100000, true);
            h.fund(1, 99999, true).fund(1, 2, false).fund(1, 100000, false).cash(1, 999999).fund(1, 1, true)
                .cash(1, 1000000).fund(1, 1, false).fund(1, 100000, false).cash(1, 1000000).fund(2, 100000, true);
        });
        test("2: its cash and escrow together would be above 1000000: with an escrow", () -> {
            new House().full(1).deposit(1, 1000000, true).money(1, 0, 1000000).fund(1, 1, false)
                .money(1, 0, 1000000);
            new House().full(1).deposit(1, 1, true).fund(1, 1, false).money(1, 999999, 1);
            House h = new House();
            for (int i = 0; i < 9; i++) h.fund(1, 100000, true);
            h.deposit(1, 900000, true).fund(1, 100000, true).money(1, 100000, 900000).fund(1, 1, false);
        });
        test("2: above 1000000, when closed, and what was paid counts no more", () -> new House().full(1)
            .deposit(1, 9, true).bid(1, "9a", NONE).reserve(0, 4, true).close(9).cash(1, 999996).fund(1, 5, false)
            .cash(1, 999996).fund(1, 4, true).cash(1, 1000000).fund(1, 1, false));
        test("2: above 1000000: nothing has changed", () -> {
            Consumer<House> call = h -> h.fund(0, 100000, false).fund(0, 1, false);
            sameBehind(fullAndBusy(), fullAndBusy(), call);
            sameBehind(fullAndBusy().close(60), fullAndBusy().close(60), h -> h.fund(0, 100000, false));
        });
    }

    private static House fullAndBusy() {
        House h = busy();
        for (int i = 0; i < 9; i++) h.fund(0, 100000, true);
        return h.fund(0, 99000, true);
    }

    private static void deposit() {
        test("3: when the house is closed", () -> {
            refusedIn(true, h -> h.deposit(0, 1, false));
            new House().fund(0, 5, true).deposit(0, 1, true).close(0).deposit(0, 1, false).reopen(true)
                .deposit(0, 1, true).money(0, 4, 1);
        });
        test("3: bidder is not 0 .. 4", () -> {
            new House().fund(0, 3, true).fund(4, 3, true).deposit(0, 1, true).deposit(4, 2, true)
                .money(0, 2, 1).money(4, 1, 2);
            for (int b : NO_BIDDERS) refused(h -> h.deposit(b, 1, false));
        });
        test("3: n is below 1", () -> {
            new House().fund(0, 1, true).deposit(0, 0, false).deposit(0, 1, true).money(0, 0, 1);
            for (int n : new int[] {0, -1, -100, LEAST, LEAST + 1}) refused(h -> h.deposit(0, n, false));
        });
        test("3: its cash is less than n", () -> {
            new House().deposit(2, 1, false).fund(2, 10, true).deposit(2, 11, false).money(2, 10, 0)
                .deposit(2, 9, true).deposit(2, 2, false).deposit(2, 1, true).money(2, 0, 10).deposit(2, 1, false);
            refused(h -> h.deposit(0, 901, false));
            refused(h -> h.deposit(0, 1000, false));
            refused(h -> h.deposit(0, MOST, false));
            refused(h -> h.deposit(0, MOST - 100, false));
            new House().full(0).deposit(0, 1000001, false).deposit(0, 1000000, true).money(0, 0, 1000000);
        });
    }

    private static void withdraw() {
        test("4: no bid any more, and its whole escrow goes back to its cash", () -> new House().fund(4, 30, true)
            .deposit(4, 20, true).deposit(4, 9, true).bid(4, "9a", NONE).withdraw(4, true).money(4, 30, 0)
            .parts(4, 0).worth(4, 63, 0).welfare(NONE, 0).bid(4, "1a", OVER));
        test("4: true also if it had neither", () -> {
            House h = new House();
            for (int b = 0; b < 5; b++) h.withdraw(b, true).money(b, 0, 0);
            h.bid(0, "0a", NONE).withdraw(0, true).parts(0, 0).withdraw(0, true).fund(1, 5, true).deposit(1, 5, true)
                .withdraw(1, true).withdraw(1, true).money(1, 5, 0);
        });
        test("4: the others and the text stay", () -> busy().withdraw(0, true).money(1, 900, 101).parts(1, 3)
            .parts(3, 2).submit(4, NONE).worth(4, 49, 5));
        test("4: when the house is closed", () -> {
            for (int b = 0; b < 5; b++) {
                int bidder = b;
                refusedIn(true, h -> h.withdraw(bidder, false));
            }
        });
        test("4: or bidder is not 0 .. 4", () -> {
            for (int b : NO_BIDDERS) refused(h -> h.withdraw(b, false));
        });
    }

    private static void reserve() {
        test("5: the item's reserve is n from now on", () -> new House().reserve(0, 999, true).reserve(5, 999, true)
            .reserve(0, 1, true).welfare(NONE, 1000).reserve(5, 0, true).welfare(NONE, 1));
        test("5: when the house is closed", () -> {
            for (int i = 0; i < 6; i++) {
                int item = i;
                refusedIn(true, h -> h.reserve(item, 500, false));
            }
            new House().close(0).reserve(0, 1, false).reopen(true).reserve(0, 1, true).welfare(NONE, 1);
        });
        test("5: item is not 0 .. 5", () -> {
            for (int i : NO_ITEMS) refused(h -> h.reserve(i, 500, false));
        });
        test("5: or n is not 0 .. 999", () -> {
            new House().reserve(2, 999, true).welfare(NONE, 999).reserve(2, 0, true).welfare(NONE, 0);
            for (int n : new int[] {-1, 1000, LEAST, LEAST + 999, MOST, 65536}) refused(h -> h.reserve(2, n, false));
        });
    }

    private static void type() {
        test("6: the house being open or closed", () -> new House().escrows(9).text("3").close(0).text("a+")
            .reopen(true).text("1b").deposit(0, 4, true).submit(0, NONE).worth(0, 3, 4).parts(0, 3));
        test("6: when its code is not 32 .. 126", () -> {
            new House().type(32, true).submit(0, 0).text("1").type(126, true).submit(0, 1);
            for (int code : new int[] {31, 127, 0, 10, 128, 255, 256 + 'a', 512 + '1', 65535}) {
                refused(h -> h.type(code, false));
            }
        });
        test("6: or the text has 40 characters", () -> {
            new House().escrows(6000).text(FORTY.substring(0, 39)).type(')', true).type(')', false).submit(0, NONE)
                .parts(0, 7).worth(0, 63, 999);
            for (char c : " ~)a1+".toCharArray()) {
                sameBehind(withForty(), withForty(), h -> h.type(c, false));
                sameBehind(withForty().close(60), withForty().close(60), h -> h.type(c, false));
            }
            new House().text(FORTY).close(0).type('a', false).reopen(true).type('a', false).submit(0, OVER)
                .type('a', true).submit(0, 0);
        });
        test("6: the text is full again after it has been emptied", () -> new House().escrows(6000).bid(0, FORTY, NONE)
            .text(FORTY).type('1', false).submit(1, NONE));
    }

    private static House withForty() {
        return busy().submit(4, NONE).withdraw(4, true).text(FORTY);
    }

    private static void submit() {
        test("7: refused, the text staying, when the house is closed", () -> {
            for (int b = 0; b < 5; b++) {
                int bidder = b;
                refusedIn(true, h -> h.submit(bidder, REFUSED));
            }
            new House().fund(0, 9, true).text("9a").close(0).submit(0, REFUSED).reopen(true).deposit(0, 9, true)
                .submit(0, NONE).worth(0, 1, 9);
            new House().text("9a+").close(0).submit(0, REFUSED).reopen(true).submit(0, 3).submit(0, 0);
        });
        test("7: or bidder is not 0 .. 4", () -> {
            for (int b : NO_BIDDERS) refused(h -> h.submit(b, REFUSED));
        });
        test("7: and then it is empty: behind a fault, behind OVER, behind NONE", () -> new House().fund(0, 5, true)
            .deposit(0, 5, true).bid(0, "1", 1).bid(0, "a", 0).bid(0, "6a", OVER).submit(0, 0).bid(0, "5a", NONE)
            .submit(0, 0).bid(0, "4b", NONE).worth(0, 3, 4));
        test("7: when it is none, the answer is its fault", () -> new House().submit(4, 0).bid(4, "99", 2)
            .bid(4, "999a+", 5).parts(4, 0));
        test("7: worth more for the set of all items than the bidder's escrow is", () -> {
            new House().fund(0, 100, true).deposit(0, 10, true).bid(0, "11a", OVER).bid(0, "10a", NONE)
                .bid(0, "9a", NONE).bid(0, "5a+6b", OVER).bid(0, "5a+5b", NONE).bid(0, "5a^10b", NONE)
                .bid(0, "5a^11b", OVER).bid(0, "(99a+99b)<11", OVER).bid(0, "(99a+99b)<10", NONE)
                .bid(0, "9a+9a", NONE).money(0, 90, 10).deposit(0, 1, true).bid(0, "11a", NONE);
            new House().bid(3, "1a", OVER).bid(3, "0a", NONE).parts(3, 1).parts(2, 0);
            new House().escrows(5993).bid(0, "999a+999b+999c+999d+999e+999f", OVER).fund(0, 1, true)
                .deposit(0, 1, true).bid(0, "999a+999b+999c+999d+999e+999f", NONE);
        });
        test("7: OVER, the bidder keeping the bid that it had, if any", () -> {
            new House().escrows(10).bid(1, "11a", OVER).parts(1, 0).worth(1, 63, 0).bid(1, "3a+7b", NONE)
                .bid(1, "11c", OVER).parts(1, 3).worth(1, 1, 3).worth(1, 2, 7).worth(1, 4, 0).worth(1, 63, 10)
                .money(1, 0, 10).welfare(NONE, 10);
        });
        test("7: a fault leaves the bid that it had", () -> new House().escrows(10).bid(1, "3a+7b", NONE)
            .bid(1, "9c+", 3).parts(1, 3).worth(1, 3, 10).worth(1, 4, 0));
        test("7: else it is the bidder's bid, in place of an earlier one", () -> {
            House h = new House().escrows(10);
            for (int b = 0; b < 5; b++) h.bid(b, "9a+1b", NONE).bid(b, "0f", NONE).parts(b, 1).worth(b, 63, 0);
            h.bid(4, "2d<1", NONE).parts(4, 2).worth(4, 8, 1).parts(3, 1).worth(3, 8, 0).welfare(NONE, 1);
        });
    }

    private static void answersOnBids() {
        test("8: 0 without a bid; the house being open or closed", () -> new House().escrows(9).bid(0, "9f", NONE)
            .worth(0, 32, 9).worth(1, 32, 0).close(9).worth(0, 32, 9).worth(0, 31, 0).worth(1, 32, 0));
        test("8: REFUSED when bidder is not 0 .. 4", () -> {
            for (int b : NO_BIDDERS) refused(h -> h.worth(b, 0, REFUSED).worth(b, 63, REFUSED));
        });
        test("8: or set not 0 .. 63", () -> {
            for (int set : NO_SETS) refused(h -> h.worth(0, set, REFUSED).worth(4, set, REFUSED));
            busy().worth(0, 0, 0).worth(0, 63, 20).worth(4, 0, 0).worth(4, 63, 0);
        });
        test("9: 0 when it has none", () -> new House().parts(0, 0).bid(0, "0a", NONE).parts(0, 1)
            .bid(0, "(" + ELEVEN + ")<0", NONE).parts(0, 12).withdraw(0, true).parts(0, 0));
        test("9: open or closed, until the house is open again", () -> new House().bid(4, "0a^0b", NONE).close(0)
            .parts(4, 3).reopen(true).parts(4, 0));
        test("9: REFUSED when bidder is not 0 .. 4", () -> {
            for (int b : NO_BIDDERS) refused(h -> h.parts(b, REFUSED));
            busy().parts(0, 3).parts(4, 0);
        });
        test("10: in which the bidder gets nothing, or of any for bidder NONE", () -> {
            House h = busy();
            for (int k = 0; k < 2; k++) {
                h.welfare(NONE, 60).welfare(0, 60).welfare(1, 41).welfare(2, 60).welfare(3, 46).welfare(4, 60);
                if (k == 0) h.close(60);
            }
            h.reopen(true).welfare(NONE, 21).welfare(0, 21).welfare(4, 21);
        });
        test("10: REFUSED when bidder is not NONE or 0 .. 4", () -> {
            for (int b : NO_BIDDERS) {
                if (b != NONE) refused(h -> h.welfare(b, REFUSED));
            }
            new House().welfare(REFUSED, REFUSED).welfare(OVER, REFUSED).welfare(NONE, 0).welfare(0, 0)
                .welfare(4, 0).welfare(5, REFUSED);
        });
    }

    private static void closeAndReopen() {
        test("11: closes the house, also with nothing in it", () -> new House().close(0).state(1)
            .owners(NONE, NONE, NONE, NONE, NONE, NONE).paid(0, 0).paid(4, 0).seller(0));
        test("11: what each bidder pays goes to the seller's account, and the rest of its escrow to its cash", () -> {
            House h = busyAndClosed().owners(1, 3, 3, 1, NONE, NONE).seller(16);
            h.money(0, 1000, 0).money(1, 996, 0).money(2, 1002, 0).money(3, 992, 0).money(4, 1004, 0);
            h.paid(0, 0).paid(1, 5).paid(2, 0).paid(3, 11).paid(4, 0);
        });
        test("11: REFUSED when it is closed", () -> {
            refusedIn(true, h -> h.close(REFUSED));
            new House().close(0).close(REFUSED).close(REFUSED).reopen(true).close(0);
        });
        test("12: no bidder has a bid, and all items are there again", () -> {
            House h = busyAndClosed().reopen(true).state(0).submit(4, OVER);
            for (int b = 0; b < 5; b++) h.parts(b, 0).worth(b, 63, 0).worth(b, 3, 0);
            for (int b = 0; b < 5; b++) h.deposit(b, 900, true);
            h.bid(2, "9a+9b+9c+9d+9e+9f", NONE).close(54).owners(2, 2, 2, 2, 2, 2).paid(2, 21);
        });
        test("12: reserves, cash and accounts stay", () -> busyAndClosed().reopen(true).welfare(NONE, 21).seller(16)
            .money(0, 1000, 0).money(1, 996, 0).money(2, 1002, 0).money(3, 992, 0).money(4, 1004, 0)
            .close(21).seller(16).reopen(true).seller(16));
        test("12: refused when it is open", () -> {
            refusedIn(false, h -> h.reopen(false));
            new House().reopen(false).state(0).close(0).reopen(true).reopen(false).state(0);
        });
    }

    private static void answersOnClosing() {
        test("13: the bidder, NONE for the seller", () -> {
            for (int b = 0; b < 5; b++) {
                new House().escrows(9).bid(b, "4a+5f", NONE).close(9).owners(b, NONE, NONE, NONE, NONE, b);
            }
        });
        test("13: REFUSED when the house is open", () -> {
            for (int i = 0; i < 6; i++) {
                int item = i;
                refusedIn(false, h -> h.owner(item, REFUSED));
            }
            new House().owner(0, REFUSED).close(0).owner(0, NONE).reopen(true).owner(0, REFUSED).owner(5, REFUSED);
        });
        test("13: or item is not 0 .. 5", () -> {
            for (int i : NO_ITEMS) refused(h -> h.owner(i, REFUSED));
        });
        test("14: what the bidder paid when the house was closed", () -> new House().escrows(9).bid(0, "9a", NONE)
            .bid(4, "7a", NONE).close(9).paid(0, 7).paid(4, 0).fund(0, 5, true).paid(0, 7).reopen(true).close(0)
            .paid(0, 0));
        test("14: REFUSED when the house is open", () -> {
            for (int b = 0; b < 5; b++) {
                int bidder = b;
                refusedIn(false, h -> h.paid(bidder, REFUSED));
            }
            new House().paid(0, REFUSED).close(0).paid(0, 0).reopen(true).paid(0, REFUSED).paid(4, REFUSED);
        });
        test("14: or bidder is not 0 .. 4", () -> {
            for (int b : NO_BIDDERS) refused(h -> h.paid(b, REFUSED));
        });
    }

    private static void accounts() {
        test("15: cash; REFUSED when bidder is not 0 .. 4", () -> {
            for (int b : NO_BIDDERS) refused(h -> h.cash(b, REFUSED));
            busy().cash(0, 900).cash(4, 900);
            busyAndClosed().cash(0, 1000).cash(4, 1004);
        });
        test("16: escrow; REFUSED when bidder is not 0 .. 4", () -> {
            for (int b : NO_BIDDERS) refused(h -> h.escrow(b, REFUSED));
            busy().escrow(0, 100).escrow(4, 104);
            busyAndClosed().escrow(0, 0).escrow(4, 0);
        });
        test("17: the seller's account goes on from closing to closing", () -> {
            House h = new House().fund(0, 100, true).reserve(0, 3, true);
            for (int k = 1; k <= 4; k++) {
                h.deposit(0, 10, true).bid(0, "10a", NONE).close(10).seller(3 * k).reopen(true).seller(3 * k);
            }
            h.money(0, 88, 0);
        });
        test("18: 0 when the house is open, 1 when it is closed", () -> new House().state(0).reopen(false).state(0)
            .close(0).state(1).close(REFUSED).state(1).reopen(true).state(0).close(0).state(1));
    }

    public static void main(String[] args) {
        ranges();
        language();
        partsAndFaults();
        worths();
        allocations();
        payments();
        refusals();
        constants();
        fund();
        deposit();
        withdraw();
        reserve();
        type();
        submit();
        answersOnBids();
        closeAndReopen();
        answersOnClosing();
        accounts();
        System.out.println(tests + " tests, " + (wrong == 0 ? "all answers are as due" : wrong + " things are wrong"));
        if (wrong != 0) System.exit(1);
    }
}
