/** Promises 32 to 38: who earns what, who may fly, and all money. */
public final class SumsTest {
    private static final Check check = new Check("SumsTest");
    private static final String ROAD = Check.ROAD;

    public static void main(String[] args) {
        cheapestIsNotItsOwn();
        carrier();
        perMile();
        ranked();
        most();
        may();
        money();
        check.end();
    }

    private static void cheapestIsNotItsOwn() {
        Prorates x = Check.told(ROAD + "proviso x any fixed 9;ticket t 100 miles b z c z d;");
        check.due("x for 9", x.cheapest(0, 0, 0), 0);
        check.due("9", x.cheapest(0, 0, 1), 9);
        check.due("z still", x.coupon(0, 0, 0), 2);
    }

    private static void row(Prorates x, int c, int... want) {
        for (int what = 0; what < want.length; what++) {
            check.due("carrier(" + c + ", " + what + ")", x.carrier(c, what), want[what]);
        }
    }

    private static void carrier() {
        Prorates x = Check.told(ROAD + "ticket t 1000 miles a x b y c z d;ticket u 90 miles a x b x c y b;");
        row(x, 0, 0, 250 + 60, 0, 0, 3, 2);
        row(x, 1, 0, 250 + 30, 0, 0, 2, 0);
        row(x, 2, 0, 500, 0, 0, 1, 0);
        x.fly(0, 0);
        x.fly(0, 1);
        x.fly(0, 2);
        x.fly(1, 0);
        row(x, 0, 280, 30, 2, 2, 1, 2);
        row(x, 1, 250, 30, 1, 1, 1, 0);
        row(x, 2, 500, 0, 2, 1, 0, 0);
        x.endorse(1, 1, 2);
        row(x, 0, 280, 0, 2, 2, 0, 2);
        row(x, 2, 500, 30, 2, 1, 1, 0);
        x.refund(1);
        row(x, 1, 250, 0, 1, 1, 0, 0);
        row(x, 2, 500, 0, 2, 1, 0, 0);
        check.due("no such what", x.carrier(0, 6), -1);
        check.due("no such what below 0", x.carrier(0, -1), -1);
        check.due("no such carrier", x.carrier(3, 0), -1);
        check.due("no such carrier below 0", x.carrier(-1, 0), -1);
    }

    private static void perMile() {
        Prorates x = Check.told(ROAD + "ticket t 1000 miles a x b y c z d x c;ticket u 11 miles b y c;");
        check.due("nothing flown", x.perMile(0), -2);
        x.fly(0, 0);
        x.fly(0, 1);
        x.fly(0, 2);
        x.fly(0, 3);
        x.fly(1, 0);
        check.due("x: 500 of 3 miles", x.perMile(0), 166);
        check.due("y: 178 of 2 miles", x.perMile(1), (x.share(0, 1) + 11) / 2);
        check.due("no such carrier", x.perMile(3), -1);
        check.due("no such carrier below 0", x.perMile(-1), -1);
        Prorates y = Check.told(ROAD + "proviso x any fixed 5;ticket t 5 miles a x b y c;");
        y.fly(0, 0);
        check.due("not yet", y.perMile(1), -2);
        y.fly(0, 1);
        check.due("nothing for a mile", y.perMile(1), 0);
    }

    private static void ranked() {
        Prorates x = Check.told(ROAD + "carrier w;ticket t 1000 miles a x b y c z d;ticket u 100 miles a x b;ticket v 100 miles a y b;");
        int[] want = {2, 0, 1, 3, -2};
        for (int k = 0; k < want.length; k++) {
            check.due("ranked(" + k + ")", x.ranked(k), want[k]);
        }
        x.refund(1);
        x.fly(0, 0);
        x.fly(0, 1);
        for (int k = 0; k < want.length; k++) {
            check.due("ranked(" + k + "), flown and refunded", x.ranked(k), want[k]);
        }
        x.endorse(0, 2, 3);
        check.due("w is first", x.ranked(0), 3);
        check.due("z is last", x.ranked(3), 2);
        check.due("far behind", x.ranked(Integer.MAX_VALUE), -2);
        check.due("below 0", x.ranked(-1), -1);
        check.due("far below 0", x.ranked(Integer.MIN_VALUE), -1);
        check.due("of none", new Prorates().ranked(0), -2);
    }

    private static void most() {
        Prorates x = Check.told(ROAD + "proviso y any least 300;proviso z b c fixed 50;"
            + "ticket t 1000 miles a x b y c z d;ticket u 1000 miles a x b z c;ticket v 1000 miles a x b x c;");
        // 233 1/3, 300, 466 2/3, off by -17, 50, -33
        check.due("t", x.most(0, 0), 1);
        check.due("t, by", x.most(0, 1), 50);
        check.due("u: 950, 50, the first", x.most(1, 0), 0);
        check.due("u, by", x.most(1, 1), 450);
        check.due("v: nothing off, the first", x.most(2, 0), 0);
        check.due("v, by", x.most(2, 1), 0);
        x.endorse(1, 0, 2);
        x.fly(1, 0);
        check.due("u flown", x.most(1, 1), 450);
        check.due("no such what", x.most(0, 2), -1);
        check.due("no such what below 0", x.most(0, -1), -1);
        check.due("no such ticket", x.most(3, 0), -1);
        check.due("no such ticket below 0", x.most(-1, 0), -1);
        Prorates y = Check.told(ROAD + "proviso x any fixed 100;ticket t 1000 miles a x b y c;");
        check.due("less than straight", y.most(0, 1), -400);
    }

    private static void may() {
        Prorates x = Check.told(ROAD + "ticket t 1000 miles a x b y c z d;ticket u 7 miles a x b y c x b y a x b y c z d y c;");
        check.due("fly", x.may(0, 0), 1);
        check.due("be endorsed", x.may(0, 1), 7);
        check.due("eight", x.may(1, 1), 255);
        x.fly(0, 0);
        check.due("fly then", x.may(0, 0), 2);
        check.due("be endorsed then", x.may(0, 1), 6);
        x.refund(0);
        check.due("refunded", x.may(0, 0), 0);
        check.due("refunded, too", x.may(0, 1), 0);
        x.undo();
        x.fly(0, 1);
        x.fly(0, 2);
        check.due("all flown", x.may(0, 0), 0);
        check.due("all flown, too", x.may(0, 1), 0);
        check.due("no such what", x.may(0, 2), -1);
        check.due("no such what below 0", x.may(0, -1), -1);
        check.due("no such ticket", x.may(2, 0), -1);
        check.due("no such ticket below 0", x.may(-1, 0), -1);
    }

    private static void all(Prorates x, String when, int... want) {
        for (int what = 0; what < want.length; what++) {
            check.due("money(" + what + ") " + when, x.money(what), want[what]);
        }
    }

    private static void money() {
        Prorates x = Check.told(ROAD + "ticket t 1000 miles a x b y c z d;ticket u 90 miles a x b x c y b;");
        all(x, "at first", 1090, 0, 1090, 0, 0);
        x.fly(0, 0);
        x.fly(0, 1);
        all(x, "behind two flights", 1090, 500, 590, 0, 250);
        x.refund(0);
        all(x, "refunded", 1090, 500, 90, 500, 250);
        x.fly(1, 0);
        x.refund(1);
        all(x, "both refunded", 1090, 530, 0, 560, 250);
        x.clear();
        all(x, "cleared", 1090, 530, 0, 560, 0);
        check.due("no such what", x.money(5), -1);
        check.due("no such what below 0", x.money(-1), -1);
    }
}
