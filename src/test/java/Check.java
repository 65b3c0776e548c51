import java.util.function.IntSupplier;

/** What all tests use: answers compared with those that are due, and texts fed by their letters. */
final class Check {
    /** What answer() gives for the two exceptions that the document names. */
    static final int OUT_OF_BOUNDS = -900000001;
    static final int NO_SUCH = -900000002;

    private final String test;
    private int wrong = 0;

    Check(String test) {
        this.test = test;
    }

    void due(String what, long got, long want) {
        if (got != want) {
            wrong++;
            System.out.println(test + ": " + what + " answered " + got + ", due is " + want);
        }
    }

    void dueAll(String what, int[] got, int... want) {
        due(what + ": how many", got.length, want.length);
        for (int i = 0; i < got.length && i < want.length; i++) {
            due(what + " [" + i + "]", got[i], want[i]);
        }
    }

    void end() {
        System.out.println(test + (wrong == 0 ? ": all as due" : ": " + wrong + " not as due"));
        if (wrong != 0) {
            System.exit(1);
        }
    }

    static int answer(IntSupplier call) {
        try {
            return call.getAsInt();
        } catch (IndexOutOfBoundsException e) {
            return OUT_OF_BOUNDS;
        } catch (java.util.NoSuchElementException e) {
            return NO_SUCH;
        }
    }

    /** Feeds the text, with blanks behind it up to a multiple of twenty bytes. */
    static void feed(Prorates x, String text) {
        for (int i = 0; i < text.length(); i += 20) {
            x.feed(number(text, i), number(text, i + 4), number(text, i + 8), number(text, i + 12), number(text, i + 16));
        }
    }

    static int number(String text, int at) {
        int number = 0;
        for (int i = at; i < at + 4; i++) {
            number = number << 8 | (i < text.length() ? text.charAt(i) : ' ');
        }
        return number;
    }

    /** What text() answers of the whole text. */
    static int tell(Prorates x, String text) {
        feed(x, text);
        return x.text(text.length());
    }

    static Prorates told(String text) {
        Prorates x = new Prorates();
        int lines = tell(x, text);
        if (lines < 0) {
            throw new IllegalArgumentException("fault " + x.fault(0) + " at " + x.fault(1) + ": " + text);
        }
        return x;
    }

    static int[] shares(Prorates x, int t) {
        int[] shares = new int[x.ticket(t, 2)];
        for (int k = 0; k < shares.length; k++) {
            shares[k] = x.share(t, k);
        }
        return shares;
    }

    static int[] coupons(Prorates x, int t, int what) {
        int[] answers = new int[x.ticket(t, 2)];
        for (int k = 0; k < answers.length; k++) {
            answers[k] = x.coupon(t, k, what);
        }
        return answers;
    }
}
