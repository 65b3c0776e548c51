/** Promises 5 to 11: miles, ways, weights, base amounts, provisos, tickets and coupons. */
public final class TablesTest {
    private static final Check check = new Check("TablesTest");

    public static void main(String[] args) {
        miles();
        ways();
        shorterLegsToldLater();
        weights();
        bases();
        provisos();
        provisosThatHold();
        tickets();
        coupons();
        factors();
        check.end();
    }

    private static final String NET = "place a;place b;place c;place d;place e;place f;"
        + "leg a d 150;leg d c 150;leg a b 100;leg c b 200;leg a c 301;leg e f 9999;";

    private static void miles() {
        Prorates x = Check.told(NET);
        check.due("miles by two legs", x.miles(0, 2), 300);
        check.due("miles back", x.miles(2, 0), 300);
        check.due("miles of one leg", x.miles(1, 0), 100);
        check.due("miles by others", x.miles(3, 1), 250);
        check.due("miles of the farthest leg", x.miles(4, 5), 9999);
        check.due("no way", x.miles(0, 4), -2);
        check.due("no way back", x.miles(5, 1), -2);
        check.due("one and itself", x.miles(4, 4), 0);
        check.due("no such place", x.miles(6, 0), -1);
        check.due("no such other place", x.miles(0, 6), -1);
        check.due("no such place and itself", x.miles(-1, -1), -1);
    }

    private static void ways() {
        Prorates x = Check.told(NET);
        int[] toC = {0, 1, 2};
        for (int i = 0; i < 3; i++) {
            check.due("the first way of two, " + i, x.way(0, 2, i), toC[i]);
            check.due("and back, " + i, x.way(2, 0, i), toC[2 - i]);
        }
        check.due("behind the way", x.way(0, 2, 3), -2);
        check.due("far behind the way", x.way(0, 2, Integer.MAX_VALUE), -2);
        check.due("d to b by a, not c", x.way(3, 1, 1), 0);
        check.due("no way", x.way(0, 4, 0), -2);
        check.due("one and itself", x.way(3, 3, 0), 3);
        check.due("one and itself, no more", x.way(3, 3, 1), -2);
        check.due("below 0", x.way(0, 2, -1), -1);
        check.due("below 0, no way", x.way(0, 4, -1), -1);
        check.due("no such place", x.way(0, 6, 0), -1);
        check.due("no such first place", x.way(-1, 0, 0), -1);
        StringBuilder line = new StringBuilder();
        for (int i = 0; i < 12; i++) {
            line.append("place p").append((char) ('a' + i)).append(';');
        }
        for (int i = 0; i < 11; i++) {
            line.append("leg p").append((char) ('a' + i)).append(" p").append((char) ('b' + i)).append(" 9999;");
        }
        Prorates y = Check.told(line.toString());
        check.due("the longest way", y.miles(0, 11), 109989);
        for (int i = 0; i < 12; i++) {
            check.due("the longest way's place " + i, y.way(11, 0, i), 11 - i);
        }
        check.due("behind the longest way", y.way(11, 0, 12), -2);
    }

    private static void shorterLegsToldLater() {
        Prorates x = Check.told("place a;place b;place c;carrier x;leg a c 50;ticket t 9 miles a x c;leg a b 3;leg b c 4;");
        check.due("miles of a coupon by legs told behind it", x.coupon(0, 0, 3), 7);
        check.due("the way", x.way(0, 2, 1), 1);
    }

    private static void weights() {
        Prorates none = new Prorates();
        check.due("without bands", none.weight(1), 100);
        check.due("without bands, far", none.weight(200000), 100);
        Prorates x = Check.told("band 10 150;band 11 999;band 9999 1;");
        int[][] want = {{1, 150}, {10, 150}, {11, 999}, {12, 1}, {9999, 1}, {10000, 100}, {200000, 100},
            {200001, -1}, {0, -1}, {-5, -1}, {Integer.MAX_VALUE, -1}, {Integer.MIN_VALUE, -1}};
        for (int[] row : want) {
            check.due("weight(" + row[0] + ")", x.weight(row[0]), row[1]);
        }
    }

    private static void bases() {
        Prorates x = Check.told("place a;place b;place c;carrier x;carrier y;base x b a 70;base y a b 80;base x a c 999999;");
        check.due("x a b", x.base(0, 0, 1), 70);
        check.due("x b a", x.base(0, 1, 0), 70);
        check.due("y a b", x.base(1, 0, 1), 80);
        check.due("x c a", x.base(0, 2, 0), 999999);
        check.due("x b c", x.base(0, 1, 2), -2);
        check.due("y a c", x.base(1, 0, 2), -2);
        check.due("alike", x.base(0, 1, 1), -1);
        check.due("no such carrier", x.base(2, 0, 1), -1);
        check.due("no such carrier below 0", x.base(-1, 0, 1), -1);
        check.due("no such place", x.base(0, 3, 1), -1);
        check.due("no such other place", x.base(0, 0, -1), -1);
    }

    private static void provisos() {
        Prorates x = Check.told("place a;place b;carrier x;carrier y;proviso y b a part 30 with x;proviso x any most 999999;"
            + "proviso x a b fixed 4;proviso x any least 5;");
        int[][] want = {{1, 1, 0, 2, 30, 0, 0}, {0, -2, -2, 4, 999999, -2, 0}, {0, 0, 1, 1, 4, -2, 0}, {0, -2, -2, 3, 5, -2, 0}};
        for (int p = 0; p < want.length; p++) {
            for (int what = 0; what < 7; what++) {
                check.due("proviso(" + p + ", " + what + ")", x.proviso(p, what), want[p][what]);
            }
        }
        check.due("no such what", Check.answer(() -> x.proviso(0, 7)), Check.NO_SUCH);
        check.due("no such what below 0", Check.answer(() -> x.proviso(3, -1)), Check.NO_SUCH);
        check.due("no such proviso", Check.answer(() -> x.proviso(4, 0)), Check.OUT_OF_BOUNDS);
        check.due("no such proviso below 0", Check.answer(() -> x.proviso(-1, 0)), Check.OUT_OF_BOUNDS);
        check.due("neither", Check.answer(() -> x.proviso(4, 7)), Check.OUT_OF_BOUNDS);
    }

    private static void provisosThatHold() {
        Prorates x = Check.told("place a;place b;place c;carrier x;carrier y;carrier z;leg a b 1;leg b c 1;"
            + "proviso x b a fixed 1 with y;proviso x any fixed 2 with z;proviso x a b least 3;proviso x any most 4;"
            + "proviso y any part 1 with x;proviso x a b fixed 7;"
            + "ticket t 1000 miles a x b x c y a;ticket u 1000 miles a x b z c x b;ticket v 1000 miles b x a;");
        check.dueAll("t holds", Check.coupons(x, 0, 7), 0, 3, 4);
        check.dueAll("u holds", Check.coupons(x, 1, 7), 1, -2, 1);
        check.dueAll("v holds", Check.coupons(x, 2, 7), 2);
        int[] times = {1, 2, 1, 1, 1, 0};
        for (int p = 0; p < times.length; p++) {
            check.due("times of proviso " + p, x.proviso(p, 6), times[p]);
        }
        x.fly(0, 0);
        check.due("a flown coupon counts", x.proviso(0, 6), 1);
        check.due("and is with another", x.proviso(4, 6), 1);
        x.endorse(0, 2, 2);
        check.dueAll("t holds, y is gone and z has come", Check.coupons(x, 0, 7), 1, 1, -2);
        check.due("times now", x.proviso(1, 6), 4);
        x.endorse(2, 0, 1);
        check.dueAll("no x on v", Check.coupons(x, 2, 7), -2);
        x.refund(1);
        check.due("refunded ones count", x.proviso(1, 6), 4);
    }

    private static void tickets() {
        Prorates x = Check.told("place a;place b;place c;carrier x;carrier y;leg a b 10;leg b c 20;"
            + "ticket t 9999999 base c y a x b;ticket u 400 miles a x b y c x a;");
        int[] t = {9999999, 1, 2, 0, 1, 0, 40, 0};
        int[] u = {400, 0, 3, 0, 0, 0, 60, 0};
        for (int what = 0; what < 8; what++) {
            check.due("ticket(0, " + what + ")", x.ticket(0, what), t[what]);
            check.due("ticket(1, " + what + ")", x.ticket(1, what), u[what]);
        }
        int first = x.fly(1, 0);
        int second = x.fly(1, 1);
        check.due("shares", first * 1000 + second, 67133);
        check.due("flown", x.ticket(1, 3), 2);
        check.due("shares of flown ones", x.ticket(1, 7), 200);
        x.endorse(1, 2, 1);
        x.endorse(0, 0, 0);
        check.due("the issuer stays", x.ticket(0, 4), 1);
        x.refund(1);
        check.due("refunded", x.ticket(1, 5), 1);
        check.due("another one isn't", x.ticket(0, 5), 0);
        check.due("no such what", Check.answer(() -> x.ticket(0, 8)), Check.NO_SUCH);
        check.due("no such what below 0", Check.answer(() -> x.ticket(0, -1)), Check.NO_SUCH);
        check.due("no such ticket", Check.answer(() -> x.ticket(2, 0)), Check.OUT_OF_BOUNDS);
        check.due("no such ticket below 0", Check.answer(() -> x.ticket(-1, 0)), Check.OUT_OF_BOUNDS);
        check.due("neither", Check.answer(() -> x.ticket(2, 8)), Check.OUT_OF_BOUNDS);
    }

    private static void coupons() {
        Prorates x = Check.told("place a;place b;place c;carrier x;carrier y;leg a b 10;leg b c 20;"
            + "proviso y any fixed 50;ticket t 100 miles a x b y c x a;");
        int[][] want = {{0, 0, 1, 10, 1000, 0, 0, -2}, {1, 1, 2, 20, 2000, 0, 1, 0}, {0, 2, 0, 30, 3000, 0, 0, -2}};
        for (int k = 0; k < want.length; k++) {
            for (int what = 0; what < 8; what++) {
                check.due("coupon(0, " + k + ", " + what + ")", x.coupon(0, k, what), want[k][what]);
            }
        }
        x.fly(0, 0);
        x.fly(0, 1);
        check.dueAll("flown", Check.coupons(x, 0, 5), 1, 1, 0);
        check.dueAll("by", Check.coupons(x, 0, 6), 5, 5, 0);
        check.dueAll("holds", Check.coupons(x, 0, 7), -2, 0, -2);
        x.endorse(0, 2, 1);
        check.dueAll("carriers", Check.coupons(x, 0, 0), 0, 1, 1);
        check.dueAll("by behind it", Check.coupons(x, 0, 6), 5, 5, 1);
        check.due("no such what", x.coupon(0, 0, 8), -1);
        check.due("no such what below 0", x.coupon(0, 0, -1), -1);
        check.due("no such coupon", x.coupon(0, 3, 0), -1);
        check.due("no such coupon below 0", x.coupon(0, -1, 0), -1);
        check.due("no such ticket", x.coupon(1, 0, 0), -1);
        check.due("no such ticket below 0", x.coupon(-1, 0, 0), -1);
    }

    private static void factors() {
        Prorates x = Check.told("place a;place b;place c;carrier x;carrier y;leg a b 10;leg b c 20;rate 7;"
            + "band 10 250;band 25 50;base y b a 555;base x c a 4;"
            + "ticket t 100 miles a x b y c x a;ticket u 100 base a x b y c x a y b;");
        check.dueAll("by miles", Check.coupons(x, 0, 4), 2500, 1000, 3000);
        check.dueAll("by base", Check.coupons(x, 1, 4), 70, 140, 4, 555);
        x.endorse(1, 0, 1);
        check.due("by base of another carrier", x.coupon(1, 0, 4), 555);
        Prorates far = Check.told("place a;place b;place c;carrier x;leg a b 9999;leg b c 9999;band 9998 5;rate 99;"
            + "band 9999 999;ticket t 1 miles a x b x c x a;ticket u 1 base a x c;");
        check.dueAll("the most by miles", Check.coupons(far, 0, 4), 9989001, 9989001, 1999800);
        check.dueAll("the most by rate", Check.coupons(far, 1, 4), 1979802);
    }
}
