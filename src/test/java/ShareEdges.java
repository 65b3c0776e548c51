/** Edges of how fares are prorated, and of what shares would be: the terms' second part, and promises 12 to 20. */
final class ShareEdges extends EdgePart {
    private static final String ROAD = Check.ROAD;
    private static final String TRIP = Check.TRIP;
    /** Four coupons of like factors: behind ROAD and carrier w. */
    private static final String FOUR = "ticket t 1000 miles a x b y c z b w a;";
    /** Two coupons of the greatest factors by miles that a band gives. */
    private static final String FAR = "place a;place b;carrier x;carrier y;leg a b 9999;band 9999 999;";

    ShareEdges(Check check, Doc doc) {
        super(check, doc);
    }

    @Override
    void run() {
        parts();
        fixed();
        fixedBeyond();
        fixedAlone();
        leasts();
        leastsAnew();
        leastsBeyond();
        eightRounds();
        mosts();
        mostsAlone();
        cents();
        greatest();
        flown();
        flownAndLess();
        by();
        share();
        carried();
        rounds();
        left();
        straight();
        other();
        without();
        matters();
        harmed();
        harmedOfSeveral();
    }

    private void parts() {
        sentence("Terms 2", "TO PART an amount by numbers among some: each has the amount times its number by their sum "
            + "(no whole number, perhaps)");
        check.parted("", TRIP, row(250, 250, 500), row(0, 0, 0), 0, 0);
        check.parted("", "ticket t 100 miles a x b y c z b;", row(34, 33, 33), row(0, 0, 0), 0, 1);
        check.parted("", "ticket t 1 miles a x b;", row(1), row(0), 0, 0);
        check.parted("", "ticket t 9999999 miles a x b;", row(9999999), row(0), 0, 0);
    }

    private void fixed() {
        sentence("Terms 2", "(1) those for which a fixed or a part HOLDS have it (part: so many hundredths of the FARE, downwards)");
        check.parted("proviso y any fixed 100;", TRIP, row(300, 100, 600), row(0, 1, 0), 0, 0);
        check.parted("proviso y any fixed 1;", TRIP, row(333, 1, 666), row(0, 1, 0), 0, 0);
        check.parted("proviso x any part 1;", "ticket t 99 miles a x b y c z b;", row(0, 50, 49), row(2, 0, 0), 0, 1);
        check.parted("proviso x any part 1;", "ticket t 100 miles a x b y c z b;", row(1, 50, 49), row(2, 0, 0), 0, 1);
        check.parted("proviso x any part 1;", "ticket t 199 miles a x b y c z b;", row(1, 99, 99), row(2, 0, 0), 0, 0);
        check.parted("proviso x any part 99;", "ticket t 1 miles a x b y c;", row(0, 1), row(2, 0), 0, 0);
        check.parted("proviso x any part 100;", "ticket t 1 miles a x b y c;", row(1, 0), row(2, 0), 0, 0);
        check.parted("proviso x any part 99;", "ticket t 9999999 miles a x b y c;", row(9899999, 100000), row(2, 0), 0, 0);
        Prorates x = Check.told(ROAD + "proviso z any part 40;" + TRIP);
        check.due("straight", x.fly(0, 0), 300);
        check.due("of the fare, not of what is left of it", x.share(0, 2), 400);
    }

    private void fixedBeyond() {
        sentence("Terms 2", "if that is more than the amount together, it is PARTED by these among them, and others have nothing");
        check.parted("proviso x any fixed 600;proviso y any fixed 401;", TRIP, row(599, 401, 0), row(1, 1, 0), 0, 1);
        check.parted("proviso y any fixed 1001;", TRIP, row(0, 1000, 0), row(0, 1, 0), 0, 0);
        check.parted("proviso x any part 60;proviso y any part 50;", TRIP, row(545, 455, 0), row(2, 2, 0), 0, 1);
        check.parted("proviso x any part 60;proviso y any fixed 401;", TRIP, row(599, 401, 0), row(2, 1, 0), 0, 1);
        check.parted("proviso x any fixed 800;proviso y any fixed 700;", "ticket t 1000 miles a x b y c;", row(533, 467), row(1, 1), 0, 1);
        // 2/3 and 1/3 of a cent: all that there is goes to one of these, not to the other
        check.parted("proviso x any fixed 2;proviso y any fixed 1;", "ticket t 1 miles a x b y c z d;", row(1, 0, 0), row(1, 1, 0), 0, 1);
        // a least or a most doesn't help those who have nothing
        check.parted("proviso x any fixed 1001;proviso y any least 5;proviso z any most 7;", TRIP, row(1000, 0, 0), row(1, 0, 0), 0, 0);
        sentence("Terms 2", "Else what is left goes on to (2)");
        check.parted("proviso x any fixed 600;proviso y any fixed 400;", TRIP, row(600, 400, 0), row(1, 1, 0), 0, 0);
        check.parted("proviso x any fixed 600;proviso y any fixed 399;", TRIP, row(600, 399, 1), row(1, 1, 0), 0, 0);
        check.parted("proviso x any fixed 400;proviso y any least 201;", TRIP, row(400, 201, 399), row(1, 3, 0), 1, 0);
        check.parted("proviso x any fixed 400;proviso y any least 200;", TRIP, row(400, 200, 400), row(1, 0, 0), 0, 0);
        check.parted("proviso x any fixed 400;proviso y any most 199;", TRIP, row(400, 199, 401), row(1, 4, 0), 1, 0);
        check.parted("proviso x any fixed 1000;proviso y any least 5;", TRIP, row(1000, 0, 0), row(1, 3, 0), 1, 0);
    }

    private void fixedAlone() {
        sentence("Terms 2", "if there are no others, it is PARTED besides by FACTORS among them");
        check.parted("proviso x any fixed 1;", "ticket t 1000 miles a x b;", row(1000), row(1), 0, 0);
        check.parted("proviso x any part 1;", "ticket t 99 miles a x b;", row(99), row(2), 0, 0);
        check.parted("proviso x any fixed 100;proviso z any part 20;", "ticket t 1000 miles b x c z d;",
            row(333, 667), row(1, 2), 0, 1);
        check.parted("proviso x any fixed 400;proviso z any fixed 600;", "ticket t 1000 miles b x c z d;", row(400, 600), row(1, 1), 0, 0);
        check.parted("proviso x any fixed 400;proviso z any fixed 599;", "ticket t 1000 miles b x c z d;", row(400, 600), row(1, 1), 0, 1);
        check.parted("proviso x any fixed 400;proviso z any fixed 599;", TRIP, row(400, 1, 599), row(1, 0, 1), 0, 0);
    }

    private void leasts() {
        sentence("Terms 2", "(2) What is left is PARTED by FACTORS among the others");
        check.parted("proviso x any least 1;proviso y any least 250;", TRIP, row(250, 250, 500), row(0, 0, 0), 0, 0);
        sentence("Terms 2", "If some then have less than a least that HOLDS for them, these have that, all at once");
        check.parted("proviso x any least 250;", TRIP, row(250, 250, 500), row(0, 0, 0), 0, 0);
        check.parted("proviso x any least 251;", TRIP, row(251, 250, 499), row(3, 0, 0), 1, 1);
        // 33 1/3 is less than 34, though the cent left over would make it 34
        check.parted("proviso x any least 34;", "ticket t 100 miles a x b y c z b;", row(34, 33, 33), row(3, 0, 0), 1, 0);
        check.parted("proviso x any least 33;", "ticket t 100 miles a x b y c z b;", row(34, 33, 33), row(0, 0, 0), 0, 1);
        check.parted("proviso x any least 260;proviso y any least 251;", TRIP, row(260, 251, 489), row(3, 3, 0), 1, 0);
        // 1 1/2 each: less than 2 by as little as can be
        check.parted("base x a b 1;base y b c 1;proviso y any least 2;", "ticket t 3 base a x b y c;", row(1, 2), row(0, 3), 1, 0);
        check.parted("proviso x any least 999 with y;", "ticket t 1000 miles a x b z c;", row(500, 500), row(0, 0), 0, 0);
    }

    private void leastsAnew() {
        sentence("Terms 2", "the rest is PARTED anew among the others, and so on");
        check.parted("proviso x any least 300;proviso y any least 233;", TRIP, row(300, 233, 467), row(3, 0, 0), 1, 1);
        check.parted("proviso x any least 300;proviso y any least 234;", TRIP, row(300, 234, 466), row(3, 3, 0), 2, 0);
        String w = "carrier w;proviso x any least 400;proviso y any least ";
        check.parted(w + "200;", FOUR, row(400, 200, 200, 200), row(3, 0, 0, 0), 1, 0);
        check.parted(w + "210;proviso z any least 195;", FOUR, row(400, 210, 195, 195), row(3, 3, 0, 0), 2, 0);
        check.parted(w + "210;proviso z any least 196;", FOUR, row(400, 210, 196, 194), row(3, 3, 3, 0), 3, 0);
        check.parted(w + "210;proviso z any least 196;proviso w any least 194;", FOUR, row(400, 210, 196, 194), row(3, 3, 3, 0), 3, 0);
        check.parted(w + "210;proviso z any least 196;proviso w any least 195;", FOUR, row(400, 210, 196, 194), row(3, 3, 3, 3), 4, 0);
    }

    private void leastsBeyond() {
        sentence("Terms 2", "if those of one such round are above what is left to them and the others together, "
            + "that is PARTED among these by their leasts, and the others have nothing");
        check.parted("proviso x any least 600;proviso y any least 400;", TRIP, row(600, 400, 0), row(3, 3, 0), 1, 0);
        check.parted("proviso x any least 600;proviso y any least 401;", TRIP, row(599, 401, 0), row(3, 3, 0), 1, 1);
        check.parted("proviso x any least 1000;", TRIP, row(1000, 0, 0), row(3, 0, 0), 1, 0);
        check.parted("proviso x any least 1001;", TRIP, row(1000, 0, 0), row(3, 0, 0), 1, 0);
        // in a second round: what the first has set stays
        check.parted("proviso x any least 800;proviso y any least 200;", TRIP, row(800, 200, 0), row(3, 3, 0), 2, 0);
        check.parted("proviso x any least 800;proviso y any least 201;", TRIP, row(800, 200, 0), row(3, 3, 0), 2, 0);
        check.parted("proviso x any least 800;proviso y any least 201;proviso z any most 1;", TRIP, row(800, 200, 0), row(3, 3, 0), 2, 0);
        // nothing is left to z, which is less than its least: a round of its own
        check.parted("proviso x any least 800;proviso y any least 200;proviso z any least 1;", TRIP, row(800, 200, 0), row(3, 3, 3), 3, 0);
    }

    /** A ticket of eight coupons, each with a proviso of its own, of which each round sets one. */
    private void eightRounds() {
        String ticket = "ticket t 800000 miles a x b y a z b w c x b y c z b w a;";
        String[] pairs = {"x a b", "y a b", "z a b", "w b c", "x b c", "y b c", "z b c", "w a b"};
        int[] leasts = {400000, 90000, 57000, 51600, 50599, 50340, 50260, 50210};
        int[] mosts = {30000, 102000, 110500, 111400, 111510, 111526, 111530, 111532};
        StringBuilder least = new StringBuilder("carrier w;");
        StringBuilder most = new StringBuilder("carrier w;");
        for (int k = 0; k < 8; k++) {
            least.append("proviso ").append(pairs[k]).append(" least ").append(leasts[k]).append(';');
            most.append("proviso ").append(pairs[k]).append(" most ").append(mosts[k]).append(';');
        }
        sentence("Terms 2", "the rest is PARTED anew among the others, and so on");
        // 100000 each; then 57142 6/7, 51666 2/3, 50600, 50350, 50267, 50230 1/2, and 50201, which is all that is left
        check.parted(least.toString(), ticket, row(400000, 90000, 57000, 51600, 50599, 50340, 50260, 50201),
            row(3, 3, 3, 3, 3, 3, 3, 3), 8, 0);
        sentence("Terms 2", "if some have more than a most that HOLDS, these have that, and so on");
        // 100000 each; then 110000, 111333 1/3, 111500, 111525, 111530, 111532, 111534; of 2 that are left each has a quarter
        check.parted(most.toString(), ticket, row(30001, 102001, 110500, 111400, 111510, 111526, 111530, 111532),
            row(4, 4, 4, 4, 4, 4, 4, 4), 8, 2);
    }

    private void mosts() {
        sentence("Terms 2", "(3) Then likewise (those set in (2) keep it): if some have more than a most that HOLDS, these have that, "
            + "and so on");
        check.parted("proviso x any most 250;", TRIP, row(250, 250, 500), row(0, 0, 0), 0, 0);
        check.parted("proviso x any most 249;", TRIP, row(249, 250, 501), row(4, 0, 0), 1, 1);
        // 1 1/2 each: more than 1 by as little as can be
        check.parted("base x a b 1;base y b c 1;proviso x any most 1;", "ticket t 3 base a x b y c;", row(1, 2), row(4, 0), 1, 0);
        // 33 1/3 is more than 33
        check.parted("proviso y any most 33;", "ticket t 100 miles a x b y c z b;", row(34, 33, 33), row(0, 4, 0), 1, 1);
        check.parted("proviso x any most 240;proviso y any most 200;", TRIP, row(240, 200, 560), row(4, 4, 0), 1, 0);
        check.parted("proviso x any most 200;proviso y any most 267;", TRIP, row(200, 267, 533), row(4, 0, 0), 1, 1);
        check.parted("proviso x any most 200;proviso y any most 266;", TRIP, row(200, 266, 534), row(4, 4, 0), 2, 0);
        check.parted("carrier w;proviso x any most 100;proviso y any most 299;proviso z any most 300;", FOUR,
            row(100, 299, 300, 301), row(4, 4, 4, 0), 3, 0);
        // x keeps its least, though it would have more of what z's most leaves
        check.parted("proviso x any least 260;proviso z any most 10;", TRIP, row(260, 730, 10), row(3, 0, 4), 2, 0);
        // y is beyond its most only until x has its least
        check.parted("proviso x any least 400;proviso y any most 200;", TRIP, row(400, 200, 400), row(3, 0, 0), 1, 0);
        check.parted("proviso x any least 400;proviso y any most 199;", TRIP, row(400, 199, 401), row(3, 4, 0), 2, 0);
    }

    private void mostsAlone() {
        sentence("Terms 2", "if there are no others then, what is left is PARTED besides by FACTORS among all who have a most so");
        check.parted("proviso x any most 1;", "ticket t 1000 miles a x b;", row(1000), row(4), 1, 0);
        check.parted("proviso x any most 250;proviso y any most 250;proviso z any most 500;", TRIP, row(250, 250, 500), row(0, 0, 0), 0, 0);
        check.parted("proviso x any most 249;proviso y any most 250;proviso z any most 500;", TRIP, row(249, 250, 501), row(4, 4, 4), 2, 1);
        check.parted("proviso x any most 100;proviso y any most 100;proviso z any most 100;", TRIP, row(275, 275, 450), row(4, 4, 4), 1, 0);
        // of two rounds, all of them
        check.parted("proviso x any most 300;proviso y any most 400;proviso z any most 100;", TRIP, row(350, 450, 200), row(4, 4, 4), 2, 0);
        // not those who have a least or a fixed one so
        check.parted("proviso x any least 260;proviso y any most 1;proviso z any most 10;", TRIP, row(260, 244, 496), row(3, 4, 4), 2, 0);
        check.parted("proviso x any fixed 100;proviso y any most 100;proviso z any most 103;", TRIP,
            row(100, 332, 568), row(1, 4, 4), 1, 1);
        // there is an other one: it has all that is left
        check.parted("proviso x any most 1;proviso z any most 1;", TRIP, row(1, 998, 1), row(4, 0, 4), 1, 0);
    }

    private void cents() {
        String eight = "miles a x b y c z b x c y b z a x b y a;";
        sentence("Terms 2", "(4) Each has its share cut to cents");
        check.parted("", "ticket t 8 " + eight, row(1, 1, 1, 1, 1, 1, 1, 1), row(0, 0, 0, 0, 0, 0, 0, 0), 0, 0);
        check.parted("", "ticket t 15 " + eight, row(2, 2, 2, 2, 2, 2, 2, 1), row(0, 0, 0, 0, 0, 0, 0, 0), 0, 7);
        check.parted("", "ticket t 1 " + eight, row(1, 0, 0, 0, 0, 0, 0, 0), row(0, 0, 0, 0, 0, 0, 0, 0), 0, 1);
        sentence("Terms 2", "a cent more have so many as cents are left over, those with the greatest rests first, "
            + "of like ones by numbers");
        // 25 1/4, 25 1/4, 50 1/2
        check.parted("", "ticket t 101 miles a x b y c z d;", row(25, 25, 51), row(0, 0, 0), 0, 1);
        // 25 1/2, 25 1/2, 51
        check.parted("", "ticket t 102 miles a x b y c z d;", row(26, 25, 51), row(0, 0, 0), 0, 1);
        // 25 3/4, 25 3/4, 51 1/2
        check.parted("", "ticket t 103 miles a x b y c z d;", row(26, 26, 51), row(0, 0, 0), 0, 2);
        // who has a fixed one has no rest: the cent goes to the first of 1 1/2 and 1 1/2
        check.parted("base y b c 1;base z c d 1;proviso x any fixed 10;", "ticket t 13 base a x b y c z d;",
            row(10, 2, 1), row(1, 0, 0), 0, 1);
        // asked behind a ticket whose second coupon has a greater rest than any of this one
        Prorates two = Check.told(ROAD + "base x b c 1;base z c d 1;proviso y c d fixed 10;"
            + "ticket t 100 miles a x b y c z b;ticket u 13 base b x c y d z c;");
        check.dueAll("thirds", Check.shares(two, 0), 34, 33, 33);
        check.dueAll("one and a half, ten, one and a half", Check.shares(two, 1), 2, 10, 1);
        // the first has its least, the others 50 3/5, 20 2/5 by 5 and 2
        check.parted("base y b c 5;base z c d 2;rate 1;proviso x any least 29;", "ticket t 100 base a x b y c z d;",
            row(29, 51, 20), row(3, 0, 0), 1, 1);
        // what is cut from besides: 100 and 233 1/3, 200 and 466 2/3
        check.parted("proviso x any fixed 100;proviso z any fixed 200;", "ticket t 1000 miles b x c z d;", row(333, 667), row(1, 1), 0, 1);
    }

    /** Numbers so great that they would not go into an int when multiplied. */
    private void greatest() {
        sentence("Terms 2", "each has the amount times its number by their sum");
        Prorates x = Check.told(FAR + "ticket t 9999999 miles a x b y a;");
        check.dueAll("the greatest by the greatest", Check.shares(x, 0), 5000000, 4999999);
        Prorates y = Check.told(FAR + "proviso x any fixed 999999;proviso y any part 100;ticket t 9999999 miles a x b y a;");
        check.dueAll("the second has the greater rest", Check.shares(y, 0), 909090, 9090909);
        Prorates z = Check.told(FAR + "ticket t 9999999 miles a x b y a x b y a x b y a x b y a;");
        check.dueAll("eight of the greatest", Check.shares(z, 0), 1250000, 1250000, 1250000, 1250000, 1250000, 1250000, 1250000, 1249999);
        Prorates one = Check.told(ROAD + "base x a b 1;ticket t 1000 base a x b;");
        check.due("all of it by the least number that can be", one.share(0, 0), 1000);
        sentence("Terms 2", "If some then have less than a least that HOLDS for them, these have that");
        Prorates least = Check.told(FAR + "proviso x any least 999999;ticket t 1999997 miles a x b y a;ticket u 1999998 miles a x b y a;");
        check.dueAll("999998 1/2 is less", Check.shares(least, 0), 999999, 999998);
        check.dueAll("as much is not", Check.coupons(least, 1, 6), 0, 0);
        check.due("in one round", least.rounds(0), 1);
        sentence("Terms 2", "if some have more than a most that HOLDS, these have that");
        Prorates most = Check.told(FAR + "proviso x any most 999999;ticket t 1999999 miles a x b y a;ticket u 1999998 miles a x b y a;");
        check.dueAll("999999 1/2 is more", Check.shares(most, 0), 999999, 1000000);
        check.dueAll("as much is not", Check.coupons(most, 1, 6), 0, 0);
        check.due("in one round", most.rounds(0), 1);
    }

    private void flown() {
        sentence("Terms 2", "A COUPON is FLOWN, or not");
        Prorates x = Check.told(ROAD + "carrier w;proviso w any fixed 750;proviso z any most 5 with y;" + TRIP);
        x.endorse(0, 1, 0);
        check.dueAll("none", Check.coupons(x, 0, 5), 0, 0, 0);
        check.due("the first flies", x.fly(0, 0), 250);
        check.dueAll("the first", Check.coupons(x, 0, 5), 1, 0, 0);
        sentence("Terms 2", "SHARES of a TICKET: of FLOWN ones as it was when they flew");
        x.endorse(0, 1, 1);
        check.dueAll("z has a most now", Check.shares(x, 0), 250, 745, 5);
        x.endorse(0, 1, 3);
        sentence("Terms 2", "the FARE less these is PRORATED among the others");
        check.dueAll("w has all that is left", Check.shares(x, 0), 250, 750, 0);
        check.due("no cent is left over", x.left(0), 0);
        x.fly(0, 1);
        check.dueAll("nothing is left to z", Check.shares(x, 0), 250, 750, 0);
        check.due("z flies for nothing", x.fly(0, 2), 0);
        check.dueAll("all flown", Check.shares(x, 0), 250, 750, 0);
        check.due("no cents to give", x.left(0), 0);
        check.due("no rounds", x.rounds(0), 0);
    }

    private void flownAndLess() {
        sentence("Terms 2", "the FARE less these is PRORATED among the others");
        for (int fixed : new int[] {749, 750, 751}) {
            Prorates x = Check.told(ROAD + "carrier w;proviso w any fixed " + fixed + ";" + TRIP);
            x.fly(0, 0);
            x.endorse(0, 1, 3);
            check.dueAll("w fixed " + fixed, Check.shares(x, 0), 250, Math.min(fixed, 750), 750 - Math.min(fixed, 750));
            check.dueAll("by", Check.coupons(x, 0, 6), 5, 1, 0);
        }
        Prorates y = Check.told(ROAD + "proviso y any least 300;proviso z any least 600;" + TRIP);
        check.dueAll("300 and 600 of 1000", Check.shares(y, 0), 100, 300, 600);
        y.endorse(0, 1, 2);
        check.dueAll("twice 600: 500 each", Check.shares(y, 0), 0, 500, 500);
        y.endorse(0, 1, 0);
        check.due("200 by two factors of like miles", y.fly(0, 0), 200);
        y.endorse(0, 1, 1);
        check.dueAll("300 and 600 of 800: by 1 and 2", Check.shares(y, 0), 200, 267, 533);
        check.due("one round", y.rounds(0), 1);
    }

    private void by() {
        sentence("Terms 2", "BY of a COUPON: 5 if it is FLOWN");
        String all = "proviso x a b fixed 1;proviso x b c part 1;proviso y any least 990;proviso z any most 1;carrier w;"
            + "ticket t 1000 miles a x b x c y b z c w b x d;";
        Prorates x = Check.told(ROAD + all);
        check.dueAll("ahead of all flights", Check.coupons(x, 0, 6), 1, 2, 3, 0, 0, 0);
        x.fly(0, 0);
        x.fly(0, 1);
        check.dueAll("a fixed one and a part that are flown", Check.coupons(x, 0, 6), 5, 5, 3, 0, 0, 0);
        sentence("Terms 2", "1 fixed, 2 part, 3 least, 4 most, if it has its share by that");
        check.parted("proviso x any fixed 1;proviso y any part 1;", TRIP, row(1, 10, 989), row(1, 2, 0), 0, 0);
        check.parted("proviso x any least 500;proviso z any most 1;", TRIP, row(500, 499, 1), row(3, 0, 4), 2, 0);
        sentence("Terms 2", "else 0 (straight)");
        check.parted("proviso x any least 1;proviso y any most 999;", TRIP, row(250, 250, 500), row(0, 0, 0), 0, 0);
        // those who have nothing have it by no proviso
        check.parted("proviso x any fixed 1001;proviso y any least 1;proviso z any most 1;", TRIP, row(1000, 0, 0), row(1, 0, 0), 0, 0);
        check.parted("proviso x any least 1001;proviso z any most 1;", TRIP, row(1000, 0, 0), row(3, 0, 0), 1, 0);
    }

    private void share() {
        sentence("Promise 12", "SHARE of a COUPON");
        Prorates x = Check.told(ROAD + TRIP + "ticket u 1 miles a x b;");
        check.due("the last of the first ticket", x.share(0, 2), 500);
        check.due("the only one of the last", x.share(1, 0), 1);
        sentence("Promise 12", "NONE: no such ones");
        for (int none : none(2)) {
            check.due("share(" + none + ", 0)", x.share(none, 0), -1);
        }
        for (int none : none(3)) {
            check.due("share(0, " + none + ")", x.share(0, none), -1);
        }
        check.due("a coupon that only another ticket has", x.share(1, 1), -1);
        check.due("of a new object", new Prorates().share(0, 0), -1);
    }

    private void carried() {
        sentence("Promise 13", "SHARES of a CARRIER's COUPONS of a TICKET together");
        Prorates x = Check.told(ROAD + "ticket t 1000 miles a x b y c x d;");
        check.due("the first and the last", x.carried(0, 0), 750);
        check.due("one", x.carried(0, 1), 250);
        check.due("none", x.carried(0, 2), 0);
        x.fly(0, 0);
        check.due("flown or not", x.carried(0, 0), 750);
        x.refund(0);
        check.due("refunded", x.carried(0, 0), 750);
        Prorates two = Check.told(ROAD + "ticket t 80 miles a x b x a x b x a x b x a x b x a;ticket u 80 miles a y b;");
        check.due("eight of eight", two.carried(0, 0), 80);
        check.due("none of a ticket asked behind one of its own", two.carried(1, 0), 0);
        sentence("Promise 13", "NONE: no such ones");
        for (int none : none(1)) {
            check.due("carried(" + none + ", 0)", x.carried(none, 0), -1);
        }
        for (int none : none(3)) {
            check.due("carried(0, " + none + ")", x.carried(0, none), -1);
        }
    }

    private void rounds() {
        sentence("Promise 14", "How many rounds of (2) and (3) set a COUPON to a least (one in which they are PARTED by their leasts, too) "
            + "or a most, as SHARES of a TICKET are PRORATED");
        check.parted("", TRIP, row(250, 250, 500), row(0, 0, 0), 0, 0);
        check.parted("proviso x any fixed 250;", TRIP, row(250, 250, 500), row(1, 0, 0), 0, 0);
        check.parted("proviso x any least 1001;", TRIP, row(1000, 0, 0), row(3, 0, 0), 1, 0);
        check.parted("proviso x any least 300;proviso z any most 300;", TRIP, row(300, 400, 300), row(3, 0, 4), 2, 0);
        // 10000 each; then 9000, 8875, 8866 2/3, 8865, 8864 of the others
        String six = "place a;place b;carrier s;carrier t;carrier u;carrier v;carrier w;carrier x;leg a b 1;"
            + "proviso s any least 15000;proviso t any least 9500;proviso u any least 8900;proviso v any least 8870;"
            + "proviso w any least 8866;proviso x any least ";
        String ticket = "ticket y 60000 miles a s b t a u b v a w b x a;";
        Prorates x = Check.told(six + "8864;" + ticket);
        check.dueAll("each by a round of its own", Check.shares(x, 0), 15000, 9500, 8900, 8870, 8866, 8864);
        check.due("all rounds but the last", x.rounds(0), 5);
        check.due("and that one", Check.told(six + "8865;" + ticket).rounds(0), 6);
        check.due("the first flies", x.fly(0, 0), 15000);
        check.due("who is flown takes part no more", x.rounds(0), 4);
        sentence("Promise 14", "NONE: no such one");
        for (int none : none(1)) {
            check.due("rounds(" + none + ")", x.rounds(none), -1);
        }
    }

    private void left() {
        sentence("Promise 15", "How many cents are left over in (4)");
        String eight = " miles a x b y c z b x c y b z a x b y a;";
        Prorates x = Check.told(ROAD + "ticket t 8" + eight + "ticket u 9" + eight + "ticket v 7" + eight + "ticket w 15" + eight);
        check.due("none", x.left(0), 0);
        check.due("one", x.left(1), 1);
        check.due("all but one have one", x.left(2), 7);
        check.due("as many, of more", x.left(3), 7);
        sentence("Promise 15", "NONE: no such one");
        for (int none : none(4)) {
            check.due("left(" + none + ")", x.left(none), -1);
        }
    }

    private void straight() {
        sentence("Promise 16", "What a COUPON would have of the FARE, WERE there no PROVISOS, and none FLOWN (straight; cents as in (4))");
        Prorates x = Check.told(ROAD + "proviso x any least 700;proviso y any fixed 100;ticket t 1002 miles a x b y c z d;");
        check.due("flies by its least", x.fly(0, 0), 700);
        check.due("the first of like rests", x.straight(0, 0), 251);
        check.due("the second", x.straight(0, 1), 250);
        check.due("the last", x.straight(0, 2), 501);
        x.fly(0, 1);
        x.fly(0, 2);
        check.due("all flown", x.straight(0, 0), 251);
        check.due("shares stay", x.share(0, 0), 700);
        Prorates y = Check.told(ROAD + "base y a b 10;rate 1;ticket t 1300 base a x b y c z d;");
        y.endorse(0, 0, 1);
        check.due("by the base amount of the carrier that it is now", y.straight(0, 0), 1000);
        Prorates two = Check.told(ROAD + "proviso y any fixed 100;" + TRIP + "ticket u 600 miles a y b x c y d;");
        check.due("of the second, behind nothing asked", two.straight(1, 2), 300);
        check.due("of the first, behind the second", two.straight(0, 2), 500);
        check.due("of the second, behind the first", two.straight(1, 1), 150);
        check.due("of the first, behind a share of the second", two.share(1, 1) + two.straight(0, 0), 400 + 250);
        sentence("Promise 16", "NONE: no such ones");
        for (int none : none(1)) {
            check.due("straight(" + none + ", 0)", x.straight(none, 0), -1);
        }
        for (int none : none(3)) {
            check.due("straight(0, " + none + ")", x.straight(0, none), -1);
        }
    }

    private void other() {
        sentence("Promise 17", "SHARE of a COUPON, WERE it by the other HOW (FLOWN ones as they were)");
        Prorates x = Check.told(ROAD + "proviso z any most 400;base x a b 50;rate 25;"
            + "ticket t 1000 miles a x b y c z d;ticket u 1000 base a x b y c z d;");
        check.due("by base, 50 of 75", x.other(0, 0), 400);
        check.due("by miles, 1 of 2", x.other(1, 0), 300);
        check.due("provisos hold as ever", x.other(0, 2), 400);
        check.due("the first flies", x.fly(0, 0), 300);
        check.due("it is as it was", x.other(0, 0), 300);
        check.due("700 less 400", x.other(0, 1), 300);
        x.fly(0, 1);
        x.fly(0, 2);
        check.due("all flown", x.other(0, 1), 300);
        check.due("how stays", x.ticket(0, 1), 0);
        check.due("of the second, behind the first", x.other(1, 2), 400);
        check.due("of the second, by its own how", x.share(1, 1), 200);
        sentence("Promise 17", "NONE: no such ones");
        for (int none : none(2)) {
            check.due("other(" + none + ", 0)", x.other(none, 0), -1);
        }
        for (int none : none(3)) {
            check.due("other(0, " + none + ")", x.other(0, none), -1);
        }
    }

    private void without() {
        sentence("Promise 18", "SHARE of a COUPON, WERE a PROVISO not told");
        Prorates x = Check.told(ROAD + "proviso y any fixed 100;proviso y any fixed 400;proviso z a b fixed 1;" + TRIP);
        check.due("the next one holds then", x.without(0, 0, 1), 400);
        check.due("what is left to another one", x.without(0, 0, 0), 200);
        check.due("one that doesn't hold", x.without(1, 0, 1), 100);
        check.due("one that holds nowhere", x.without(2, 0, 2), 600);
        check.due("the first flies", x.fly(0, 0), 300);
        check.due("it is as it was", x.without(0, 0, 0), 300);
        check.due("700 less 400", x.without(0, 0, 2), 300);
        check.due("shares stay", x.share(0, 1), 100);
        Prorates two = Check.told(ROAD + "proviso y any fixed 100;" + TRIP + "ticket u 600 miles a y b x c y d;");
        check.due("of the second, behind nothing asked", two.without(0, 1, 2), 300);
        check.due("of the first, behind the second", two.without(0, 0, 2), 500);
        check.due("of the second, behind the first", two.without(0, 1, 1), 150);
        check.due("of the second, behind a share of the first", two.share(0, 2) + two.without(0, 1, 0), 600 + 150);
        sentence("Promise 18", "NONE: no such ones");
        for (int none : none(3)) {
            check.due("without(" + none + ", 0, 0)", x.without(none, 0, 0), -1);
            check.due("without(0, 0, " + none + ")", x.without(0, 0, none), -1);
        }
        for (int none : none(1)) {
            check.due("without(0, " + none + ", 0)", x.without(0, none, 0), -1);
        }
    }

    private void matters() {
        sentence("Promise 19", "TICKETS (bits) of which SHARES would be other ones without a PROVISO");
        StringBuilder text = new StringBuilder(ROAD
            + "proviso x any fixed 1;proviso y any fixed 50;proviso z any fixed 1;proviso y any fixed 9;");
        for (char t = 'm'; t < 'u'; t++) {
            text.append("ticket ").append(t).append(t < 't' ? " 100 miles a x b y c;" : " 100 miles a x b y c z b;");
        }
        Prorates x = Check.told(text.toString());
        check.due("all eight", x.matters(0), 255);
        check.due("the last", x.matters(2), 128);
        check.due("one that holds nowhere", x.matters(3), 0);
        check.due("one behind which another one holds", x.matters(1), 255);
        for (int k = 0; k < 3; k++) {
            x.fly(7, k);
        }
        check.due("all of the last flown", x.matters(0), 127);
        Prorates same = Check.told(ROAD + "proviso y any fixed 250;proviso z any least 500;proviso x any fixed 250;" + TRIP);
        check.due("a fixed one that is as much as straight", same.matters(0), 0);
        check.due("a least that isn't needed", same.matters(1), 0);
        sentence("Promise 19", "NONE: no such one");
        for (int none : none(4)) {
            check.due("matters(" + none + ")", x.matters(none), -1);
        }
    }

    private void harmed() {
        sentence("Promise 20", "-2: no one would");
        Prorates x = Check.told(ROAD + "proviso x any fixed 100;proviso z any fixed 5;"
            + "ticket t 300 miles a x b y a;ticket u 100 miles a x b y a;");
        for (int what = 0; what < 4; what++) {
            check.due("a proviso that holds nowhere, " + what, x.harmed(1, what), -2);
            check.due("50 more by one ticket, 50 less by another, " + what, x.harmed(0, what), -2);
        }
        check.due("though it matters for both", x.matters(0), 3);
        sentence("Promise 20", "NONE: no such ones");
        for (int none : none(2)) {
            check.due("harmed(" + none + ", 0)", x.harmed(none, 0), -1);
        }
        for (int none : none(4)) {
            check.due("harmed(0, " + none + ")", x.harmed(0, none), -1);
            check.due("harmed(1, " + none + ")", x.harmed(1, none), -1);
        }
    }

    private void harmedOfSeveral() {
        sentence("Promise 20", "The CARRIER who would have more by most of all TICKETS together without a PROVISO (what 0), "
            + "by how much (1), who would have less by most (2), by how much (3), of several the first");
        Prorates x = Check.told(ROAD + "proviso z any fixed 40;ticket t 300 miles a x b y c z b;");
        int[] less = {2, 60, 0, 30};
        Prorates y = Check.told(ROAD + "proviso z any fixed 160;ticket t 300 miles a x b y c z b;");
        int[] more = {0, 30, 2, 60};
        Prorates cent = Check.told(ROAD + "proviso y any fixed 51;ticket t 100 miles a x b y a;");
        int[] one = {0, 1, 1, 1};
        for (int what = 0; what < 4; what++) {
            check.due("two who would have less, " + what, x.harmed(0, what), less[what]);
            check.due("two who would have more, " + what, y.harmed(0, what), more[what]);
            check.due("by one cent, " + what, cent.harmed(0, what), one[what]);
        }
        Prorates both = Check.told(ROAD + "proviso x any fixed 1 with z;ticket t 100 miles a x b y a z b;ticket u 90 miles a x b z a;");
        // t: 1, 50, 49, then 34, 33, 33; u: 1, 89, then 45, 45
        int[] all = {0, 33 + 44, 2, 16 + 44};
        for (int what = 0; what < 4; what++) {
            check.due("of two tickets together, " + what, both.harmed(0, what), all[what]);
        }
    }
}
