import java.util.ArrayList;
import java.util.List;

/** All that can be asked of an object: two objects that answer all of it alike stand alike. */
final class Everything {
    private final Prorates x;
    private final List<String> answers = new ArrayList<>();

    private Everything(Prorates x) {
        this.x = x;
    }

    static List<String> of(Prorates x) {
        Everything all = new Everything(x);
        all.text();
        all.tables();
        for (int t = 0; t < x.count(8); t++) {
            all.ticket(t);
        }
        all.provisos();
        all.carriers();
        return all.answers;
    }

    private void add(String call, int answer) {
        answers.add(call + " = " + answer);
    }

    private void text() {
        for (int what = 0; what <= 10; what++) {
            add("count(" + what + ")", x.count(what));
        }
        for (int what = 0; what < 5; what++) {
            add("money(" + what + ")", x.money(what));
        }
        add("payments()", x.payments());
        for (int i = 0; i < x.payments() * 3; i++) {
            add("payment(" + i / 3 + ", " + i % 3 + ")", x.payment(i / 3, i % 3));
        }
    }

    private void tables() {
        int places = x.count(1);
        for (int a = 0; a < places; a++) {
            for (int b = 0; b < a; b++) {
                add("miles(" + a + ", " + b + ")", x.miles(a, b));
            }
        }
        for (int miles = 1; miles <= 5; miles++) {
            add("weight(" + miles + ")", x.weight(miles));
        }
        for (int c = 0; c < x.count(2); c++) {
            for (int b = 1; b < places; b++) {
                add("base(" + c + ", 0, " + b + ")", x.base(c, 0, b));
            }
        }
    }

    private void ticket(int t) {
        for (int what = 0; what < 8; what++) {
            add("ticket(" + t + ", " + what + ")", x.ticket(t, what));
        }
        for (int k = 0; k < x.ticket(t, 2); k++) {
            for (int what = 0; what < 8; what++) {
                add("coupon(" + t + ", " + k + ", " + what + ")", x.coupon(t, k, what));
            }
            add("share(" + t + ", " + k + ")", x.share(t, k));
            add("straight(" + t + ", " + k + ")", x.straight(t, k));
            add("other(" + t + ", " + k + ")", x.other(t, k));
        }
        add("rounds(" + t + ")", x.rounds(t));
        add("left(" + t + ")", x.left(t));
        for (int what = 0; what < 2; what++) {
            add("most(" + t + ", " + what + ")", x.most(t, what));
            add("may(" + t + ", " + what + ")", x.may(t, what));
        }
    }

    private void provisos() {
        for (int p = 0; p < x.count(5); p++) {
            for (int what = 0; what < 7; what++) {
                add("proviso(" + p + ", " + what + ")", x.proviso(p, what));
            }
            add("matters(" + p + ")", x.matters(p));
            for (int what = 0; what < 4; what++) {
                add("harmed(" + p + ", " + what + ")", x.harmed(p, what));
            }
        }
    }

    private void carriers() {
        for (int c = 0; c < x.count(2); c++) {
            for (int what = 0; what < 6; what++) {
                add("carrier(" + c + ", " + what + ")", x.carrier(c, what));
            }
            add("net(" + c + ")", x.net(c));
            add("cleared(" + c + ")", x.cleared(c));
            add("perMile(" + c + ")", x.perMile(c));
            add("ranked(" + c + ")", x.ranked(c));
            for (int d = 0; d < x.count(2); d++) {
                add("bill(" + c + ", " + d + ")", x.bill(c, d));
            }
        }
    }
}
