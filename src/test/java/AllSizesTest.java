/** No call throws by itself: every call with every argument, on an empty object and on one as full as can be. */
public final class AllSizesTest {
    private static final Check check = new Check("AllSizesTest");
    private static final int[] ARGUMENTS = {Integer.MIN_VALUE, -1000000000, -2, -1, 0, 1, 2, 3, 4, 5, 6, 7, 8, 9, 11, 12, 15, 16,
        24, 31, 32, 63, 64, 1200, 200000, 9999999, Integer.MAX_VALUE};

    public static void main(String[] args) {
        Prorates x = new Prorates();
        askAll(x, "empty");
        check.due("a full text", Check.tell(x, fullText()), 67);
        check.due("places", x.count(1), 12);
        check.due("carriers", x.count(2), 6);
        check.due("bands", x.count(4), 5);
        check.due("provisos", x.count(5), 16);
        check.due("base amounts", x.count(6), 16);
        check.due("tickets", x.count(8), 8);
        askAll(x, "full");
        for (int t = 0; t < 8; t++) {
            for (int k = 0; k < 8; k++) {
                check.due("a flight's share", x.share(t, k), x.fly(t, k));
            }
        }
        check.due("all fares are flown", x.money(1), x.money(0));
        askAll(x, "flown");
        doAll(x);
        askAll(x, "done");
        check.end();
    }

    private static String fullText() {
        StringBuilder text = new StringBuilder();
        for (int i = 0; i < 12; i++) {
            text.append("place ").append((char) ('a' + i)).append(';');
        }
        for (int i = 0; i < 6; i++) {
            text.append("carrier ").append((char) ('u' + i)).append(';');
        }
        text.append("leg a b 9999;leg b c 9999;leg a c 1;band1 1;band2 2;band3 3;band4 4;band5 5;rate 99;");
        String[] kinds = {"fixed9", "part9", "least9", "most9"};
        for (int i = 0; i < 16; i++) {
            text.append("proviso ").append((char) ('u' + i % 6)).append(" any ").append(kinds[i % 4]).append(';');
        }
        String[] pairs = {"a b", "a c", "b c"};
        for (int i = 0; i < 16; i++) {
            text.append("base ").append((char) ('u' + i % 6)).append(' ').append(pairs[i / 6]).append("9;");
        }
        for (int i = 0; i < 8; i++) {
            text.append("ticket ").append((char) ('m' + i)).append(i < 2 ? "9999999" : "9").append(i % 2 == 0 ? "base" : "miles")
                .append(" a u b v a w b x a y b z a u b v a;");
        }
        return text.toString();
    }

    /** Only proviso and ticket throw, and only what the document names. */
    private static void ask(String when, java.util.function.IntSupplier call) {
        try {
            call.getAsInt();
        } catch (RuntimeException e) {
            check.due(when + ": " + e, 1, 0);
        }
    }

    private static void askAll(Prorates x, String when) {
        for (int a : ARGUMENTS) {
            ask(when, () -> x.fault(a) + x.weight(a) + x.rounds(a) + x.left(a) + x.matters(a) + x.net(a) + x.cleared(a));
            ask(when, () -> x.perMile(a) + x.ranked(a) + x.money(a) + x.count(a) + x.payments());
            for (int b : ARGUMENTS) {
                ask(when, () -> x.miles(a, b) + x.share(a, b) + x.carried(a, b) + x.straight(a, b) + x.other(a, b));
                ask(when, () -> x.harmed(a, b) + x.bill(a, b) + x.payment(a, b) + x.carrier(a, b) + x.most(a, b) + x.may(a, b));
                ask(when, () -> Check.answer(() -> x.proviso(a, b)) + Check.answer(() -> x.ticket(a, b)));
                for (int c : ARGUMENTS) {
                    ask(when, () -> x.way(a, b, c) + x.base(a, b, c) + x.coupon(a, b, c) + x.without(a, b, c));
                    ask(when, () -> x.wouldEndorse(a, b, c) + x.cheapest(a, b, c));
                }
            }
        }
    }

    private static void doAll(Prorates x) {
        for (int a : ARGUMENTS) {
            ask("feed", () -> x.feed(a, a, a, a, a));
            ask("text", () -> x.text(a));
            ask("refund", () -> x.refund(a));
            for (int b : ARGUMENTS) {
                ask("fly", () -> x.fly(a, b));
                ask("clear, undo", () -> x.clear() + x.undo());
                for (int c : ARGUMENTS) {
                    ask("endorse", () -> x.endorse(a, b, c));
                }
            }
        }
    }
}
