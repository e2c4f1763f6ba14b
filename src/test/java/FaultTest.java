import java.util.ArrayList;
import java.util.List;
import java.util.Random;
import java.util.regex.Matcher;
import java.util.regex.Pattern;

/**
 * Holds what submit answers against the document's sentence on the fault of a text, taken word by word: a row of
 * characters is the beginning of a BID when something can be written behind it so that it is one. What a BID is
 * is asked of regular expressions, brackets being taken away from the inside; nothing here reads from left to right.
 */
public final class FaultTest {
    // Stands for a BID in brackets once it has been seen to be one; no text can hold it.
    private static final String DONE = "\u0001";
    private static final String NUMBER = "[0-9]{1,3}";
    private static final String BUNDLE = NUMBER + "(?:([a-f])(?![a-f]*\\1))+";
    private static final Pattern BUNDLES = Pattern.compile(BUNDLE);
    private static final String CAPPED = DONE + "(?:<" + NUMBER + ")*";
    private static final String SUM = CAPPED + "(?:\\+" + CAPPED + ")*";
    private static final String BID = SUM + "(?:\\^" + SUM + ")*";
    private static final Pattern WHOLE = Pattern.compile(BID);
    private static final Pattern IN_BRACKETS = Pattern.compile("\\(" + BID + "\\)");
    // A part: a bundle (a number behind < is none) or a sign.
    private static final Pattern PART = Pattern.compile("(?<![<0-9])" + NUMBER + "[a-f]+|[<^+]");
    private static final String[] ENDS = {"", "a", "1", "1a"};

    private static boolean isBid(String text) {
        // What is glued to a bundle, such as a fourth digit, stays and is in the way of a match.
        String rest = BUNDLES.matcher(text).replaceAll(DONE);
        for (int depth = 0; depth < 8 && rest.indexOf('(') >= 0; depth++) {
            rest = IN_BRACKETS.matcher(rest).replaceAll(DONE);
        }
        return WHOLE.matcher(rest).matches();
    }

    /** A BID that begins with these characters, or null. */
    private static String bidFrom(String beginning) {
        StringBuilder brackets = new StringBuilder();
        for (int i = 0; i < beginning.length(); i++) {
            if (beginning.charAt(i) == '(') brackets.append(')');
            if (beginning.charAt(i) == ')' && brackets.length() > 0) brackets.setLength(brackets.length() - 1);
        }
        for (String end : ENDS) {
            String text = beginning + end + brackets;
            if (isBid(text)) return text;
        }
        return null;
    }

    private static List<Integer> partsOf(String bid) {
        List<Integer> places = new ArrayList<>();
        Matcher parts = PART.matcher(bid);
        while (parts.find()) places.add(parts.start());
        return places;
    }

    // The one reading in it: a part begins at a character when it does in a BID that begins like the text up to there,
    // whatever the text itself has behind it.
    private static int answerFor(String text) {
        if (isBid(text) && partsOf(text).size() <= 12) return BundleAuction.NONE;
        for (int place = 0; place < text.length(); place++) {
            String bid = bidFrom(text.substring(0, place + 1));
            if (bid == null) return place;
            List<Integer> parts = partsOf(bid);
            if (parts.size() > 12 && parts.get(12) == place) return place;
        }
        return text.length();
    }

    private final Random random = new Random(8);
    private BundleAuction house;
    private int calls = 512;
    private int wrong = 0;
    private int atThirteenth = 0;
    private int taken = 0;

    private int submit(String text) {
        if (calls + text.length() + 1 > 512) {
            house = new BundleAuction();
            house.fund(0, 6000);
            house.deposit(0, 6000);
            calls = 2;
        }
        for (int i = 0; i < text.length(); i++) house.type(text.charAt(i));
        calls += text.length() + 1;
        return house.submit(0);
    }

    private void compare(String text) {
        int want = answerFor(text);
        int got = submit(text);
        if (got != want) {
            wrong++;
            System.out.println("'" + text + "' answered " + got + ", due is " + want);
        }
        if (want == BundleAuction.NONE) taken++;
        if (want > 0 && want < text.length() && bidFrom(text.substring(0, want + 1)) != null) atThirteenth++;
    }

    private char one(String from) {
        return from.charAt(random.nextInt(from.length()));
    }

    // Mostly what may stand next, so that the texts go far before something is wrong with them.
    private String wander() {
        StringBuilder text = new StringBuilder("(((((((((".substring(random.nextInt(8) == 0 ? random.nextInt(3) : 9));
        int length = 1 + random.nextInt(40);
        String last = "";
        while (text.length() < length) {
            boolean atom = last.isEmpty() || last.equals("^") || last.equals("+") || last.equals("(");
            if (atom) last = random.nextInt(5) == 0 ? "(" : bundle();
            else last = random.nextInt(6) == 0 ? ")" : random.nextInt(3) == 0 ? "<" + random.nextInt(50) : "" + one("^+");
            text.append(last);
        }
        text.setLength(length);
        int at = random.nextInt(length);
        if (random.nextInt(4) == 0) text.setCharAt(at, one("0189abfg^+<() ~"));
        if (random.nextInt(8) == 0) text.deleteCharAt(at);
        return text.toString();
    }

    private String bundle() {
        String bundle = "" + random.nextInt(random.nextInt(10) == 0 ? 1002 : 10) + one("abcdef");
        while (random.nextInt(6) == 0) bundle += one("abcdef");
        return bundle;
    }

    public static void main(String[] args) {
        FaultTest test = new FaultTest();
        for (int k = 0; k < 12000; k++) test.compare(test.wander());
        // Texts that never come so far would show nothing about the last bids and the thirteenth part.
        if (test.taken < 200 || test.atThirteenth < 200) {
            test.wrong++;
            System.out.println("only " + test.taken + " bids and " + test.atThirteenth + " texts with a thirteenth part");
        }
        System.out.println(test.wrong == 0 ? "all faults are as the words say" : test.wrong + " things are wrong");
        if (test.wrong != 0) System.exit(1);
    }
}
