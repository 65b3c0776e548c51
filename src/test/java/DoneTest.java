/** Promises 21 to 31: what is done by call, undone, billed, cleared and paid. */
public final class DoneTest {
    private static final Check check = new Check("DoneTest");
    private static final String ROAD = Check.ROAD;
    private static final String TRIP = Check.TRIP;

    public static void main(String[] args) {
        fly();
        endorse();
        refund();
        bills();
        nothingToBill();
        payments();
        manyPayments();
        likePayers();
        circle();
        clear();
        undo();
        undoFourteen();
        wouldEndorse();
        cheapest();
        noSuchOnes();
        check.end();
    }

    private static void fly() {
        Prorates x = Check.told(ROAD + TRIP + "ticket u 10 miles a x b y c;");
        check.due("the second ahead of the first", x.fly(0, 1), -4);
        check.due("the third", x.fly(0, 2), -4);
        check.due("the first", x.fly(0, 0), 250);
        check.due("again", x.fly(0, 0), -2);
        check.due("the third ahead of the second", x.fly(0, 2), -4);
        check.due("the second", x.fly(0, 1), 250);
        check.due("the third now", x.fly(0, 2), 500);
        check.due("all flown", x.ticket(0, 3), 3);
        check.due("of the other ticket none", x.ticket(1, 3), 0);
        x.fly(1, 0);
        x.refund(1);
        check.due("flown and refunded", x.fly(1, 0), -2);
        check.due("refunded", x.fly(1, 1), -3);
        Prorates y = Check.told(ROAD + TRIP);
        y.refund(0);
        check.due("refunded, and one ahead", y.fly(0, 2), -3);
        check.due("nothing flown", y.ticket(0, 3), 0);
        check.due("only the refund can be undone", y.count(9), 1);
    }

    private static void endorse() {
        Prorates x = Check.told(ROAD + "proviso z any fixed 700;proviso y any least 300 with x;" + TRIP);
        check.dueAll("first", Check.shares(x, 0), 0, 300, 700);
        check.due("to z", x.endorse(0, 0, 2), 500);
        check.due("again", x.endorse(0, 0, 2), -4);
        check.dueAll("then", Check.shares(x, 0), 500, 0, 500);
        check.due("the last to x", x.endorse(0, 2, 0), 0);
        check.dueAll("at last", Check.shares(x, 0), 700, 300, 0);
        x.fly(0, 0);
        check.due("a flown one", x.endorse(0, 0, 1), -2);
        check.due("a flown one to its own", x.endorse(0, 0, 2), -2);
        x.refund(0);
        check.due("flown and refunded", x.endorse(0, 0, 1), -2);
        check.due("refunded", x.endorse(0, 1, 0), -3);
        check.due("refunded, its own", x.endorse(0, 1, 1), -3);
        check.due("what can be undone", x.count(9), 4);
    }

    private static void refund() {
        Prorates x = Check.told(ROAD + "proviso y any fixed 100;" + TRIP + "ticket u 70 miles a x b;");
        x.fly(0, 0);
        check.due("700 of 1000", x.refund(0), 700);
        check.due("again", x.refund(0), -3);
        check.dueAll("shares as they are", Check.shares(x, 0), 300, 100, 600);
        x.fly(1, 0);
        check.due("none left", x.refund(1), -2);
        check.due("not refunded", x.ticket(1, 5), 0);
        x.undo();
        check.due("all of it", x.refund(1), 70);
        check.due("refunded", x.ticket(1, 5), 1);
    }

    private static void bills() {
        Prorates x = Check.told(ROAD + TRIP + "ticket u 700 miles b y c x b z c;");
        x.fly(0, 0);
        check.due("the issuer bills nobody", x.money(4), 0);
        x.fly(0, 1);
        x.fly(0, 2);
        check.due("y bills x", x.bill(1, 0), 250);
        check.due("z bills x", x.bill(2, 0), 500);
        check.due("x bills y nothing yet", x.bill(0, 1), 0);
        x.endorse(1, 0, 0);
        x.fly(1, 0);
        check.due("x bills y, who told it", x.bill(0, 1), 234);
        check.due("net of x", x.net(0), 234 - 750);
        check.due("net of y", x.net(1), 250 - 234);
        check.due("net of z", x.net(2), 500);
        x.endorse(1, 1, 1);
        x.fly(1, 1);
        check.due("the issuer's own", x.bill(0, 1), 234);
        x.fly(1, 2);
        check.due("z bills y", x.bill(2, 1), 233);
        check.due("net of y then", x.net(1), 250 - 234 - 233);
        check.due("alike", x.bill(1, 1), -1);
        check.due("cleared yet", x.cleared(2), 0);
    }

    private static void nothingToBill() {
        Prorates x = Check.told(ROAD + "proviso x any fixed 1000;ticket t 1000 miles a x b y c;");
        x.fly(0, 0);
        check.due("y flies for nothing", x.fly(0, 1), 0);
        check.due("a bill of 0", x.bill(1, 0), 0);
        check.due("no bills to clear", x.clear(), -2);
        check.due("what can be undone", x.count(9), 2);
    }

    private static void payments() {
        // y has 300 of x, z 300 of x: of like ones the first
        Prorates x = Check.told(ROAD + "ticket t 600 miles a x b y c z b x a;ticket u 600 miles a x b y c z b x a;");
        check.due("nothing to pay", x.payments(), 0);
        check.due("nothing to pay at all", x.payment(0, 0), -2);
        for (int t = 0; t < 2; t++) {
            for (int k = 0; k < 4; k++) {
                x.fly(t, k);
            }
        }
        check.due("payments", x.payments(), 2);
        int[][] want = {{0, 1, 300}, {0, 2, 300}};
        for (int i = 0; i < 2; i++) {
            for (int what = 0; what < 3; what++) {
                check.due("payment(" + i + ", " + what + ")", x.payment(i, what), want[i][what]);
            }
        }
        check.due("not so many", x.payment(2, 0), -2);
        check.due("not nearly so many", x.payment(Integer.MAX_VALUE, 2), -2);
        check.due("below 0", x.payment(-1, 0), -1);
        check.due("no such what", x.payment(0, 3), -1);
        check.due("no such what below 0", x.payment(0, -1), -1);
        check.due("neither", x.payment(9, 3), -1);
        check.due("asked only", x.money(4), 600);
    }

    private static void manyPayments() {
        // nets: u -500, v -400, w 300, x 300, y 200, z 100
        Prorates x = Check.told("place a;place b;carrier u;carrier v;carrier w;carrier x;carrier y;carrier z;leg a b 1;"
            + "ticket ta 600 miles a u b w a;ticket tb 400 miles a u b y a;ticket tc 600 miles a v b x a;"
            + "ticket td 200 miles a v b z a;");
        for (int t = 0; t < 4; t++) {
            x.fly(t, 0);
            x.fly(t, 1);
        }
        // u pays w 300, then v (400) x 300, then u (200) y 200, then v z 100
        int[][] want = {{0, 2, 300}, {1, 3, 300}, {0, 4, 200}, {1, 5, 100}};
        check.due("payments", x.payments(), want.length);
        for (int i = 0; i < want.length; i++) {
            for (int what = 0; what < 3; what++) {
                check.due("payment(" + i + ", " + what + ")", x.payment(i, what), want[i][what]);
            }
        }
        check.due("together", x.clear(), 900);
        int[] cleared = {-500, -400, 300, 300, 200, 100};
        for (int c = 0; c < cleared.length; c++) {
            check.due("cleared(" + c + ")", x.cleared(c), cleared[c]);
        }
        check.due("nothing to pay any more", x.payments(), 0);
    }

    private static void likePayers() {
        // nets: v 600, x -300, y -300; then a bill of one cent
        Prorates x = Check.told("place a;place b;carrier v;carrier x;carrier y;leg a b 1;"
            + "ticket t 600 miles a x b v a;ticket u 600 miles a y b v a;ticket w 2 miles a x b v a;");
        for (int t = 0; t < 2; t++) {
            x.fly(t, 0);
            x.fly(t, 1);
        }
        check.due("of like ones the first pays first", x.payment(0, 0), 1);
        check.due("then the other one", x.payment(1, 0), 2);
        check.due("together", x.clear(), 600);
        x.fly(2, 0);
        x.fly(2, 1);
        check.due("one payment", x.payments(), 1);
        check.due("of a cent", x.payment(0, 2), 1);
        check.due("a cent", x.clear(), 1);
    }

    private static void circle() {
        Prorates x = Check.told(ROAD + "ticket t 200 miles a x b y a;ticket u 200 miles a y b z a;ticket v 200 miles a z b x a;");
        for (int t = 0; t < 3; t++) {
            x.fly(t, 0);
            x.fly(t, 1);
        }
        check.due("bills", x.money(4), 300);
        check.due("net", x.net(0), 0);
        check.due("no payments", x.payments(), 0);
        check.due("cleared by none", x.clear(), 0);
        check.due("no bills any more", x.money(4), 0);
        check.due("nothing to clear", x.clear(), -2);
        check.due("undone", x.undo(), 6);
        check.due("bills again", x.bill(1, 0), 100);
    }

    private static void clear() {
        Prorates x = Check.told(ROAD + TRIP + "ticket u 1000 miles a x b y c z d;");
        check.due("no bills", x.clear(), -2);
        check.due("nothing happened", x.count(9), 0);
        x.fly(0, 0);
        x.fly(0, 1);
        check.due("250", x.clear(), 250);
        x.fly(0, 2);
        x.fly(1, 0);
        x.fly(1, 1);
        check.due("750", x.clear(), 750);
        check.due("x in all", x.cleared(0), -1000);
        check.due("y in all", x.cleared(1), 500);
        check.due("z in all", x.cleared(2), 500);
        check.due("net is 0", x.net(0), 0);
        check.due("the second undone", x.undo(), 6);
        check.due("x", x.cleared(0), -250);
        check.due("z", x.cleared(2), 0);
        check.due("z's bill", x.bill(2, 0), 500);
        check.due("y's bill", x.bill(1, 0), 250);
        x.undo();
        check.due("y's bill is gone", x.bill(1, 0), 0);
    }

    private static void undo() {
        Prorates x = Check.told(ROAD + TRIP);
        x.fly(0, 0);
        x.endorse(0, 1, 0);
        x.endorse(0, 1, 2);
        x.fly(0, 1);
        x.refund(0);
        x.clear();
        check.due("six", x.count(9), 6);
        check.due("clear undone", x.undo(), 5);
        check.due("z's bill", x.bill(2, 0), 250);
        check.due("z's cleared", x.cleared(2), 0);
        check.due("refund undone", x.undo(), 4);
        check.due("not refunded", x.ticket(0, 5), 0);
        check.due("flight undone", x.undo(), 3);
        check.due("z's bill is gone", x.bill(2, 0), 0);
        check.due("one flown", x.ticket(0, 3), 1);
        check.due("endorsing undone", x.undo(), 2);
        check.due("x's again", x.coupon(0, 1, 0), 0);
        check.due("endorsing undone again", x.undo(), 1);
        check.due("y's again", x.coupon(0, 1, 0), 1);
        check.due("the first undone", x.undo(), 0);
        check.due("none flown", x.ticket(0, 3), 0);
        check.due("nothing", x.undo(), -1);
        check.due("nothing still", x.undo(), -1);
        x.fly(0, 2);
        x.refund(5);
        x.endorse(0, 0, 0);
        x.share(0, 0);
        check.due("what is refused or asked isn't done", x.undo(), -1);
    }

    private static void undoFourteen() {
        Prorates x = Check.told(ROAD + TRIP);
        for (int i = 1; i <= 20; i++) {
            x.endorse(0, 0, i % 3);
            check.due("what can be undone", x.count(9), Math.min(i, 14));
        }
        for (int i = 19; i > 5; i--) {
            check.due("undo", x.undo(), i - 6);
            check.due("whose it is", x.coupon(0, 0, 0), i % 3);
        }
        check.due("the eldest are forgotten", x.undo(), -1);
        check.due("whose it stays", x.coupon(0, 0, 0), 0);
        x.endorse(0, 0, 1);
        check.due("one again", x.count(9), 1);
        check.due("undone", x.undo(), 0);
        check.due("whose it is", x.coupon(0, 0, 0), 0);
    }

    private static void wouldEndorse() {
        Prorates x = Check.told(ROAD + "proviso z any fixed 700;proviso y any least 300 with x;" + TRIP);
        check.due("to z", x.wouldEndorse(0, 0, 2), 500);
        check.due("to y", x.wouldEndorse(0, 0, 1), 150);
        check.due("to its own", x.wouldEndorse(0, 0, 0), 0);
        check.due("it stays", x.coupon(0, 0, 0), 0);
        check.due("its share stays", x.share(0, 0), 0);
        check.due("nothing to undo", x.count(9), 0);
        x.fly(0, 0);
        check.due("a flown one", x.wouldEndorse(0, 0, 0), -2);
        x.refund(0);
        check.due("a flown one, refunded", x.wouldEndorse(0, 0, 0), -2);
        check.due("refunded", x.wouldEndorse(0, 1, 1), -3);
    }

    private static void cheapest() {
        Prorates x = Check.told(ROAD + "proviso z any most 100;proviso y a b part 10;" + TRIP + "ticket u 1000 miles b z c z d;");
        check.due("y and z alike, the first", x.cheapest(0, 0, 0), 1);
        check.due("share then", x.cheapest(0, 0, 1), 100);
        check.due("its own", x.cheapest(0, 2, 0), 2);
        check.due("share now", x.cheapest(0, 2, 1), 100);
        check.due("of u", x.cheapest(1, 0, 0), 2);
        // both by most 100, 800 besides by 1 and 2: 366 2/3; x or y: 900
        check.due("share of u", x.cheapest(1, 0, 1), 367);
        x.fly(0, 0);
        check.due("a flown one", x.cheapest(0, 0, 1), -2);
        x.refund(0);
        check.due("refunded", x.cheapest(0, 1, 0), -3);
        check.due("refunded, no such what", x.cheapest(0, 1, 2), -1);
        check.due("no such what", x.cheapest(1, 0, 2), -1);
        check.due("no such what below 0", x.cheapest(1, 0, -1), -1);
    }

    private static void noSuchOnes() {
        Prorates x = Check.told(ROAD + TRIP);
        int[][] pairs = {{1, 0}, {-1, 0}, {0, 3}, {0, -1}, {Integer.MAX_VALUE, Integer.MIN_VALUE}};
        for (int[] pair : pairs) {
            int t = pair[0];
            int k = pair[1];
            check.due("fly", x.fly(t, k), -1);
            check.due("endorse", x.endorse(t, k, 0), -1);
            check.due("wouldEndorse", x.wouldEndorse(t, k, 0), -1);
            check.due("cheapest", x.cheapest(t, k, 0), -1);
        }
        x.fly(0, 0);
        for (int none : new int[] {3, -1, Integer.MAX_VALUE, Integer.MIN_VALUE}) {
            check.due("endorse a flown one to none", x.endorse(0, 0, none), -1);
            check.due("endorse to none", x.endorse(0, 1, none), -1);
            check.due("wouldEndorse to none", x.wouldEndorse(0, 1, none), -1);
            check.due("refund", x.refund(none), -1);
            check.due("bill", x.bill(none, 0), -1);
            check.due("bill to", x.bill(0, none), -1);
            check.due("net", x.net(none), -1000000000);
            check.due("cleared", x.cleared(none), -1000000000);
        }
    }
}
