/** Promises 12 to 20: how fares are prorated, and what shares would be if something were otherwise. */
public final class SharesTest {
    private static final Check check = new Check("SharesTest");
    private static final String ROAD = Check.ROAD;
    private static final String TRIP = Check.TRIP;

    public static void main(String[] args) {
        straightShares();
        centsLeftOver();
        fixed();
        fixedBeyondTheFare();
        fixedAlone();
        parts();
        leasts();
        leastsBeyondTheRest();
        leastsOfNothing();
        mosts();
        hardlyBeyond();
        mostsAlone();
        leastsThenMosts();
        flownOnes();
        carried();
        straightOnes();
        others();
        without();
        matters();
        harmed();
        noSuchOnes();
        check.end();
    }

    private static Prorates parted(String provisos, String ticket, int[] shares, int[] by, int rounds, int left) {
        return check.parted(provisos, ticket, shares, by, rounds, left);
    }

    private static int[] row(int... numbers) {
        return numbers;
    }

    private static void straightShares() {
        parted("", TRIP, row(250, 250, 500), row(0, 0, 0), 0, 0);
        parted("band 1 300;", TRIP, row(375, 375, 250), row(0, 0, 0), 0, 0);
        parted("", "ticket t 1 miles a x d;", row(1), row(0), 0, 0);
        parted("", "ticket t 9999999 miles a x d z a;", row(5000000, 4999999), row(0, 0), 0, 1);
        parted("base y b c 5;", "ticket t 1000 base a x b y c z d;", row(286, 143, 571), row(0, 0, 0), 0, 2);
    }

    private static void centsLeftOver() {
        // thirds: 33 1/3 each, the first has the cent
        parted("", "ticket t 100 miles a x b y c z b;", row(34, 33, 33), row(0, 0, 0), 0, 1);
        // 2/3, 2/3, 2/3 over: two cents to the first two
        parted("", "ticket t 101 miles a x b y c z b;", row(34, 34, 33), row(0, 0, 0), 0, 2);
        // 25 1/4, 25 1/4, 50 1/2: the greatest rest is the last
        parted("", "ticket t 101 miles a x b y c z d;", row(25, 25, 51), row(0, 0, 0), 0, 1);
        // 25 3/4, 25 3/4, 51 1/2: two left over, the first two have 3/4
        parted("", "ticket t 103 miles a x b y c z d;", row(26, 26, 51), row(0, 0, 0), 0, 2);
        parted("", "ticket t 1 miles a x b y c z b x c y b z a x b y a;", row(1, 0, 0, 0, 0, 0, 0, 0), row(0, 0, 0, 0, 0, 0, 0, 0), 0, 1);
        parted("", "ticket t 7 miles a x b y c z b x c y b z a x b y a;", row(1, 1, 1, 1, 1, 1, 1, 0), row(0, 0, 0, 0, 0, 0, 0, 0), 0, 7);
    }

    private static void fixed() {
        parted("proviso y any fixed 100;", TRIP, row(300, 100, 600), row(0, 1, 0), 0, 0);
        parted("proviso y any fixed 1000;", TRIP, row(0, 1000, 0), row(0, 1, 0), 0, 0);
        parted("proviso y any fixed 999;", TRIP, row(0, 999, 1), row(0, 1, 0), 0, 1);
    }

    private static void fixedBeyondTheFare() {
        // 1000 by 800 and 700: 533 1/3 and 466 2/3
        parted("proviso x any fixed 800;proviso y any fixed 700;", TRIP, row(533, 467, 0), row(1, 1, 0), 0, 1);
        parted("proviso y any fixed 1001;", TRIP, row(0, 1000, 0), row(0, 1, 0), 0, 0);
        // a least doesn't help who has nothing
        parted("proviso x any fixed 999999;proviso y any part 100;proviso z any least 5;", TRIP, row(999, 1, 0), row(1, 2, 0), 0, 1);
    }

    private static void fixedAlone() {
        // 1000 less 100 and 200: 700 by 1 and 2, 233 1/3 and 466 2/3
        parted("proviso x any fixed 100;proviso z any part 20;", "ticket t 1000 miles b x c z d;", row(333, 667), row(1, 2), 0, 1);
        parted("proviso x any fixed 100;", "ticket t 1000 miles a x b;", row(1000), row(1), 0, 0);
    }

    private static void parts() {
        parted("proviso z any part 33;", "ticket t 999 miles a x b y c z d;", row(335, 335, 329), row(0, 0, 2), 0, 0);
        parted("proviso z any part 100;", TRIP, row(0, 0, 1000), row(0, 0, 2), 0, 0);
        // 1 hundredth of 99 is none
        parted("proviso x any part 1;", "ticket t 99 miles a x b y c z b;", row(0, 50, 49), row(2, 0, 0), 0, 1);
        parted("proviso x any part 1;", "ticket t 99 miles a x b;", row(99), row(2), 0, 0);
        // of the fare, not of what flown ones leave
        Prorates x = Check.told(ROAD + "proviso z any part 40;" + TRIP);
        check.due("300", x.fly(0, 0), 300);
        check.dueAll("part of the fare", Check.shares(x, 0), 300, 300, 400);
    }

    private static void leasts() {
        parted("proviso x any least 250;", TRIP, row(250, 250, 500), row(0, 0, 0), 0, 0);
        parted("proviso x any least 251;", TRIP, row(251, 250, 499), row(3, 0, 0), 1, 1);
        // x has 300, then y has 233 1/3, less than 240
        parted("proviso x any least 300;proviso y any least 240;", TRIP, row(300, 240, 460), row(3, 3, 0), 2, 0);
        parted("proviso x any least 300;proviso y any least 233;", TRIP, row(300, 233, 467), row(3, 0, 0), 1, 1);
        parted("proviso x any least 300;proviso y any least 234;", TRIP, row(300, 234, 466), row(3, 3, 0), 2, 0);
        // both at once
        parted("proviso x any least 300;proviso y any least 300;", TRIP, row(300, 300, 400), row(3, 3, 0), 1, 0);
        // 33 1/3 is less than 34, though cents left over would have made it 34
        parted("proviso x any least 34;", "ticket t 100 miles a x b y c z b;", row(34, 33, 33), row(3, 0, 0), 1, 0);
    }

    private static void leastsBeyondTheRest() {
        // 1000 by 900 and 800: 529 7/17 and 470 10/17
        parted("proviso x any least 900;proviso y any least 800;", TRIP, row(529, 471, 0), row(3, 3, 0), 1, 1);
        parted("proviso x any least 999999;", TRIP, row(1000, 0, 0), row(3, 0, 0), 1, 0);
        // x has 600 in the first round; of 400 left y would have 133 1/3, and has all of it by its least
        parted("proviso x any least 600;proviso y any least 250;", TRIP, row(600, 250, 150), row(3, 3, 0), 2, 0);
        parted("proviso x any least 800;proviso y any least 250;", TRIP, row(800, 200, 0), row(3, 3, 0), 2, 0);
        // z by its most has nothing then, too
        parted("proviso x any least 800;proviso y any least 250;proviso z any most 1;", TRIP, row(800, 200, 0), row(3, 3, 0), 2, 0);
    }

    private static void leastsOfNothing() {
        // x takes all that there is, then y and z have less than theirs, and nothing is left to them
        parted("proviso x any least 1000;proviso y any least 250;proviso z any least 500;", TRIP,
            row(1000, 0, 0), row(3, 3, 3), 2, 0);
        parted("proviso x any fixed 1000;proviso y any least 250;", TRIP, row(1000, 0, 0), row(1, 3, 0), 1, 0);
    }

    private static void mosts() {
        parted("proviso x any most 250;", TRIP, row(250, 250, 500), row(0, 0, 0), 0, 0);
        parted("proviso x any most 249;", TRIP, row(249, 250, 501), row(4, 0, 0), 1, 1);
        // x has 200, then y has 266 2/3, more than 260
        parted("proviso x any most 200;proviso y any most 260;", TRIP, row(200, 260, 540), row(4, 4, 0), 2, 0);
        parted("proviso x any most 200;proviso y any most 267;", TRIP, row(200, 267, 533), row(4, 0, 0), 1, 1);
        parted("proviso x any most 200;proviso y any most 266;", TRIP, row(200, 266, 534), row(4, 4, 0), 2, 0);
    }

    private static void hardlyBeyond() {
        // 1 1/2 each: beyond 1 and below 2 by as little as can be
        String bases = "base x a b 1;base y b c 1;";
        parted(bases + "proviso x any most 1;", "ticket t 3 base a x b y c;", row(1, 2), row(4, 0), 1, 0);
        parted(bases + "proviso y any least 2;", "ticket t 3 base a x b y c;", row(1, 2), row(0, 3), 1, 0);
        parted(bases + "proviso x any most 2;proviso y any least 1;", "ticket t 3 base a x b y c;", row(2, 1), row(0, 0), 0, 1);
    }

    private static void mostsAlone() {
        // 700 besides, by 1, 1 and 2
        parted("proviso x any most 100;proviso y any most 100;proviso z any most 100;", TRIP,
            row(275, 275, 450), row(4, 4, 4), 1, 0);
        // z has 100 first, then x and y 450 each, all set: 700 besides among all three
        parted("proviso x any most 300;proviso y any most 400;proviso z any most 100;", TRIP,
            row(350, 450, 200), row(4, 4, 4), 2, 0);
        // the fixed one keeps its own
        parted("proviso x any fixed 100;proviso y any most 100;proviso z any most 103;", TRIP,
            row(100, 332, 568), row(1, 4, 4), 1, 1);
    }

    private static void leastsThenMosts() {
        // x has 400; of 600 y has 200, z 400, more than 300
        parted("proviso x any least 400;proviso z any most 300;", TRIP, row(400, 300, 300), row(3, 0, 4), 2, 0);
        // x keeps 400 as z's most gives more than that to the others
        parted("proviso x any least 260;proviso z any most 10;", TRIP, row(260, 730, 10), row(3, 0, 4), 2, 0);
        // all others are set by mosts: what is left goes to these alone
        parted("proviso x any least 260;proviso y any most 1;proviso z any most 10;", TRIP, row(260, 244, 496), row(3, 4, 4), 2, 0);
    }

    private static void flownOnes() {
        Prorates x = Check.told(ROAD + "proviso y any fixed 100;" + TRIP);
        check.due("x flies", x.fly(0, 0), 300);
        x.endorse(0, 1, 2);
        // 700 among two by 1 and 2: 233 1/3, 466 2/3
        check.dueAll("shares of the others", Check.shares(x, 0), 300, 233, 467);
        check.due("left", x.left(0), 1);
        check.due("y flies", x.fly(0, 1), 233);
        check.due("left of one", x.left(0), 0);
        check.due("z flies", x.fly(0, 2), 467);
        check.due("left of none", x.left(0), 0);
        check.due("rounds of none", x.rounds(0), 0);
        check.dueAll("all flown", Check.shares(x, 0), 300, 233, 467);
        Prorates y = Check.told(ROAD + "proviso x any fixed 1000;proviso y any part 10;proviso z any most 7;" + TRIP);
        check.dueAll("909 1/11, 90 10/11", Check.shares(y, 0), 909, 91, 0);
        y.fly(0, 0);
        y.fly(0, 1);
        check.dueAll("nothing for z", Check.shares(y, 0), 909, 91, 0);
        check.due("by straight", y.coupon(0, 2, 6), 0);
        check.due("z flies for nothing", y.fly(0, 2), 0);
    }

    private static void carried() {
        Prorates x = Check.told(ROAD + "proviso y any fixed 100;ticket t 1000 miles a x b y c x d;");
        check.due("x", x.carried(0, 0), 900);
        check.due("y", x.carried(0, 1), 100);
        check.due("z", x.carried(0, 2), 0);
        x.fly(0, 0);
        check.due("x, flown or not", x.carried(0, 0), 900);
        x.endorse(0, 2, 2);
        check.due("x, flown", x.carried(0, 0), 300);
        check.due("z has 600", x.carried(0, 2), 600);
    }

    private static void straightOnes() {
        Prorates x = Check.told(ROAD + "proviso y any fixed 100;proviso x any least 700;ticket t 1001 miles a x b y c z d;");
        int[] want = {250, 250, 501};
        x.fly(0, 0);
        for (int k = 0; k < 3; k++) {
            check.due("straight(0, " + k + ")", x.straight(0, k), want[k]);
        }
        Prorates y = Check.told(ROAD + "base y a b 10;rate 1;ticket t 1300 base a x b y c z d;");
        check.due("by rate", y.straight(0, 0), 325);
        y.endorse(0, 0, 1);
        check.due("by base of another one", y.straight(0, 0), 1000);
        check.due("its share", y.share(0, 0), 1000);
    }

    private static void others() {
        Prorates x = Check.told(ROAD + "proviso z any most 400;base x a b 50;rate 25;"
            + "ticket t 1000 miles a x b y c z d;ticket u 1000 base a x b y c z d;");
        // by miles 1, 1, 2; by base 50, 25, 50
        check.dueAll("t", Check.shares(x, 0), 300, 300, 400);
        check.dueAll("u", Check.shares(x, 1), 400, 200, 400);
        check.due("t by base", x.other(0, 0), 400);
        check.due("t by base, y", x.other(0, 1), 200);
        check.due("t by base, z", x.other(0, 2), 400);
        check.due("u by miles", x.other(1, 0), 300);
        x.fly(0, 0);
        check.due("the flown one as it was", x.other(0, 0), 300);
        x.endorse(0, 1, 0);
        // 700 among 25 and 50
        check.due("the others by base", x.other(0, 1), 300);
        check.due("z by its most", x.other(0, 2), 400);
        check.due("shares stay", x.share(0, 1), 300);
    }

    private static void without() {
        Prorates x = Check.told(ROAD + "proviso y any fixed 100;proviso y any fixed 400;proviso z any part 10;" + TRIP);
        check.dueAll("now", Check.shares(x, 0), 800, 100, 100);
        check.due("without the first the second holds", x.without(0, 0, 1), 400);
        check.due("x then", x.without(0, 0, 0), 500);
        check.due("without the second", x.without(1, 0, 1), 100);
        check.due("without the third", x.without(2, 0, 2), 600);
        check.due("x without the third", x.without(2, 0, 0), 300);
        x.fly(0, 0);
        check.due("the flown one as it was", x.without(0, 0, 0), 800);
        check.due("of what is left of the fare: 200 by 400 and 100", x.without(0, 0, 1), 160);
        check.due("z then", x.without(0, 0, 2), 40);
        check.due("shares stay", x.share(0, 1), 100);
    }

    private static void matters() {
        Prorates x = Check.told(ROAD + "proviso x any fixed 100 with y;proviso y any least 100;proviso z any most 500;"
            + "ticket t 1000 miles a x b y c z d;ticket u 1000 miles a x b z c;ticket v 1000 miles a x b y a;"
            + "ticket w 100 miles a y b;");
        check.due("x", x.matters(0), 1 + 4);
        check.due("y: nowhere less", x.matters(1), 0);
        check.due("z: in t it would have 600, in u just 500", x.matters(2), 1);
        x.refund(0);
        check.due("a refunded ticket", x.matters(2), 1);
        x.undo();
        x.fly(0, 0);
        check.due("flown", x.matters(0), 4);
    }

    private static void harmed() {
        Prorates x = Check.told(ROAD + "proviso y any fixed 50;proviso x any least 1;proviso z any fixed 400 with y;"
            + "ticket t 1000 miles a x b y c z d;ticket u 1000 miles a x b y c;");
        // without the first: t 250, 250, 500 less z's 400: 300, 300, 400; now 550, 50, 400; u 950, 50: 500, 500
        int[] want = {1, 700, 0, 700};
        for (int what = 0; what < 4; what++) {
            check.due("harmed(0, " + what + ")", x.harmed(0, what), want[what]);
            check.due("harmed(1, " + what + ")", x.harmed(1, what), -2);
        }
        // without the third: t 316 2/3, 50, 633 1/3
        check.due("who has more without the third", x.harmed(2, 0), 2);
        check.due("by how much", x.harmed(2, 1), 233);
        check.due("who has less", x.harmed(2, 2), 0);
        check.due("by how much less", x.harmed(2, 3), 233);
        check.due("no such what", x.harmed(0, 4), -1);
        check.due("no such what below 0", x.harmed(0, -1), -1);
        check.due("no such proviso", x.harmed(3, 0), -1);
        Prorates y = Check.told(ROAD + "proviso z any fixed 100;ticket t 400 miles a x b y c z b y a;");
        // z has 100 either way
        check.due("nobody", y.harmed(0, 0), -2);
        Prorates w = Check.told(ROAD + "proviso z any fixed 40;ticket t 300 miles a x b y c z b;");
        check.due("z has more", w.harmed(0, 0), 2);
        check.due("60 more", w.harmed(0, 1), 60);
        check.due("x and y have less, the first", w.harmed(0, 2), 0);
        check.due("30 less", w.harmed(0, 3), 30);
    }

    private static void noSuchOnes() {
        Prorates x = Check.told(ROAD + "proviso z any fixed 40;" + TRIP);
        int[][] pairs = {{1, 0}, {-1, 0}, {0, 3}, {0, -1}, {Integer.MAX_VALUE, Integer.MIN_VALUE}};
        for (int[] pair : pairs) {
            int t = pair[0];
            int k = pair[1];
            check.due("share", x.share(t, k), -1);
            check.due("carried", x.carried(t, k), -1);
            check.due("straight", x.straight(t, k), -1);
            check.due("other", x.other(t, k), -1);
            check.due("without", x.without(0, t, k), -1);
        }
        check.due("without no such proviso", x.without(1, 0, 0), -1);
        check.due("without no such proviso below 0", x.without(-1, 0, 0), -1);
        check.due("without -2", x.without(-2, 0, 0), -1);
        for (int none : new int[] {1, -1, Integer.MAX_VALUE, Integer.MIN_VALUE}) {
            check.due("rounds", x.rounds(none), -1);
            check.due("left", x.left(none), -1);
            check.due("matters", x.matters(none), -1);
            check.due("harmed", x.harmed(none, 0), -1);
        }
    }
}
