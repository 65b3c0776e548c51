import java.util.function.IntSupplier;

/** What all tests use: answers compared with those that are due, and texts fed by their letters. */
final class Check {
    /** What answer() gives for the two exceptions that the document names. */
    static final int OUT_OF_BOUNDS = -900000001;
    static final int NO_SUCH = -900000002;

    /** Legs of 1, 1 and 2 miles, one behind the other; ten lines. */
    static final String ROAD = "place a;place b;place c;place d;carrier x;carrier y;carrier z;"
        + "leg a b 1;leg b c 1;leg c d 2;";
    /** Behind that: shares of 250, 250 and 500, without provisos. */
    static final String TRIP = "ticket t 1000 miles a x b y c z d;";

    private final String test;
    private String about = "";
    private int wrong = 0;

    Check(String test) {
        this.test = test;
    }

    /** What is said ahead of each answer that isn't as due, from here on. */
    void about(String words) {
        about = words;
    }

    void due(String what, long got, long want) {
        if (got != want) {
            wrong++;
            System.out.println(test + ": " + about + what + " answered " + got + ", due is " + want);
        }
    }

    void dueAll(String what, int[] got, int... want) {
        due(what + ": how many", got.length, want.length);
        for (int i = 0; i < got.length && i < want.length; i++) {
            due(what + " [" + i + "]", got[i], want[i]);
        }
    }

    /** A text that ends with the fault at the place of the sign |, which is no part of it. */
    void fault(int kind, String marked) {
        int place = marked.indexOf('|');
        String text = marked.substring(0, place) + marked.substring(place + 1);
        Prorates x = new Prorates();
        due("text of " + marked, tell(x, text), -1);
        due("fault of " + marked, x.fault(0), kind);
        due("place of the fault of " + marked, x.fault(1), place);
        due("lines behind " + marked, x.count(0), 0);
    }

    /** A text without a fault. */
    Prorates good(int lines, String text) {
        Prorates x = new Prorates();
        due("text of " + text, tell(x, text), lines);
        due("fault of " + text, x.fault(0), 0);
        due("place of no fault of " + text, x.fault(1), -1);
        due("count(0) of " + text, x.count(0), lines);
        return x;
    }

    /** A new object with one ticket on ROAD: its shares, by, rounds and cents left over. */
    Prorates parted(String provisos, String ticket, int[] shares, int[] by, int rounds, int left) {
        Prorates x = told(ROAD + provisos + ticket);
        dueAll(provisos + " shares", shares(x, 0), shares);
        dueAll(provisos + " by", coupons(x, 0, 6), by);
        due(provisos + " rounds", x.rounds(0), rounds);
        due(provisos + " left", x.left(0), left);
        return x;
    }

    void end() {
        System.out.println(test + (wrong == 0 ? ": all as due" : ": " + wrong + " not as due"));
        if (wrong != 0) {
            System.exit(1);
        }
    }

    static int answer(IntSupplier call) {
        try {
            return call.getAsInt();
        } catch (IndexOutOfBoundsException e) {
            return OUT_OF_BOUNDS;
        } catch (java.util.NoSuchElementException e) {
            return NO_SUCH;
        }
    }

    /** Feeds the text, with blanks behind it up to a multiple of twenty bytes. */
    static void feed(Prorates x, String text) {
        for (int i = 0; i < text.length(); i += 20) {
            x.feed(number(text, i), number(text, i + 4), number(text, i + 8), number(text, i + 12), number(text, i + 16));
        }
    }

    static int number(String text, int at) {
        int number = 0;
        for (int i = at; i < at + 4; i++) {
            number = number << 8 | (i < text.length() ? text.charAt(i) : ' ');
        }
        return number;
    }

    /** What text() answers of the whole text. */
    static int tell(Prorates x, String text) {
        feed(x, text);
        return x.text(text.length());
    }

    static Prorates told(String text) {
        Prorates x = new Prorates();
        int lines = tell(x, text);
        if (lines < 0) {
            throw new IllegalArgumentException("fault " + x.fault(0) + " at " + x.fault(1) + ": " + text);
        }
        return x;
    }

    static int[] shares(Prorates x, int t) {
        int[] shares = new int[x.ticket(t, 2)];
        for (int k = 0; k < shares.length; k++) {
            shares[k] = x.share(t, k);
        }
        return shares;
    }

    static int[] coupons(Prorates x, int t, int what) {
        int[] answers = new int[x.ticket(t, 2)];
        for (int k = 0; k < answers.length; k++) {
            answers[k] = x.coupon(t, k, what);
        }
        return answers;
    }
}
