/** Edges of who earns what, what is off most, what may be done, and all money: promises 33 to 38. */
final class SumEdges extends EdgePart {
    private static final String ROAD = Check.ROAD;
    private static final String TRIP = Check.TRIP;

    SumEdges(Check check, Doc doc) {
        super(check, doc);
    }

    @Override
    void run() {
        carrier();
        perMile();
        ranked();
        most();
        may();
        money();
        full();
    }

    private void all(String when, Prorates x, int c, int... want) {
        for (int what = 0; what < want.length; what++) {
            check.due("carrier(" + c + ", " + what + ") " + when, x.carrier(c, what), want[what]);
        }
    }

    private void carrier() {
        sentence("Promise 33", "Of a CARRIER, what 0 SHARES of FLOWN COUPONS together, 1 of the others (of TICKETS that aren't REFUNDED), "
            + "2 MILES of FLOWN ones, 3 COUPONS FLOWN, 4 the others (likewise), 5 TICKETS of which it is the ISSUER");
        Prorates x = Check.told(ROAD + "carrier w;" + TRIP + "ticket u 100 miles d z c x d;");
        all("at first", x, 0, 0, 250 + 50, 0, 0, 2, 1);
        all("at first", x, 2, 0, 500 + 50, 0, 0, 2, 1);
        all("of no ticket", x, 3, 0, 0, 0, 0, 0, 0);
        x.fly(0, 0);
        x.fly(1, 0);
        all("one flown", x, 0, 250, 50, 1, 1, 1, 1);
        all("one flown", x, 2, 50, 500, 2, 1, 1, 1);
        x.refund(0);
        all("what is flown of a refunded ticket counts", x, 0, 250, 50, 1, 1, 1, 1);
        all("what isn't does not", x, 2, 50, 0, 2, 1, 0, 1);
        all("nor here", x, 1, 0, 0, 0, 0, 0, 0);
        x.endorse(1, 1, 3);
        x.fly(1, 1);
        all("endorsed away", x, 0, 250, 0, 1, 1, 0, 1);
        all("endorsed to", x, 3, 50, 0, 2, 1, 0, 0);
        sentence("Promise 33", "NONE: no such ones");
        for (int none : none(4)) {
            check.due("carrier(" + none + ", 0)", x.carrier(none, 0), -1);
        }
        for (int none : none(6)) {
            check.due("carrier(0, " + none + ")", x.carrier(0, none), -1);
        }
        check.due("of a new object", new Prorates().carrier(0, 0), -1);
    }

    private void perMile() {
        sentence("Promise 34", "SHARES of FLOWN COUPONS of a CARRIER by their MILES, in cents, downwards");
        Prorates x = Check.told(ROAD + "proviso x any fixed 1;ticket t 9 miles a x b y c;ticket u 11 miles a y d;ticket v 3 miles b z d;");
        x.fly(0, 0);
        x.fly(0, 1);
        x.fly(2, 0);
        check.due("one of one", x.perMile(0), 1);
        check.due("eight of one", x.perMile(1), 8);
        check.due("3 of 3", x.perMile(2), 1);
        x.fly(1, 0);
        check.due("19 of 5", x.perMile(1), 3);
        Prorates few = Check.told(ROAD + "ticket t 3 miles a x d;ticket u 1 miles a x d;");
        few.fly(0, 0);
        check.due("3 of 4", few.perMile(0), 0);
        few.fly(1, 0);
        check.due("4 of 8", few.perMile(0), 0);
        sentence("Promise 34", "-2: there are none");
        Prorates none = Check.told(ROAD + TRIP);
        check.due("none flown", none.perMile(0), -2);
        none.fly(0, 0);
        check.due("of another one", none.perMile(1), -2);
        none.refund(0);
        check.due("of a refunded ticket", none.perMile(0), 250);
        none.undo();
        none.undo();
        check.due("none any more", none.perMile(0), -2);
        sentence("Promise 34", "NONE: no such one");
        for (int c : none(3)) {
            check.due("perMile(" + c + ")", x.perMile(c), -1);
        }
        check.due("of a new object", new Prorates().perMile(0), -1);
    }

    private void order(String when, Prorates x, int... want) {
        for (int k = 0; k < want.length; k++) {
            check.due("ranked(" + k + ") " + when, x.ranked(k), want[k]);
        }
    }

    private void ranked() {
        sentence("Promise 35", "The k-th CARRIER by SHARES of all COUPONS, FLOWN or not, REFUNDED or not, most first, "
            + "of like ones by numbers (k from 0 on)");
        Prorates x = Check.told(ROAD + "carrier w;" + TRIP + "ticket u 499 miles a y b;ticket v 500 miles a w b;");
        // x 250, y 749, z 500, w 500
        order("at first", x, 1, 2, 3, 0);
        x.fly(1, 0);
        x.refund(2);
        x.fly(0, 0);
        x.refund(0);
        order("flown and refunded", x, 1, 2, 3, 0);
        Prorates turned = Check.told(ROAD + "ticket t 600 miles a x b;ticket u 400 miles a y b;ticket v 150 miles a x b;");
        order("750 and 400", turned, 0, 1, 2);
        turned.endorse(2, 0, 1);
        order("600 and 550", turned, 0, 1, 2);
        turned.endorse(0, 0, 2);
        order("0, 550 and 600", turned, 2, 1, 0);
        order("of none who has anything", Check.told(ROAD), 0, 1, 2);
        order("one cent more", Check.told(ROAD + "ticket t 1 miles a z b;"), 2, 0, 1);
        sentence("Promise 35", "-2: there are not so many");
        check.due("one too many", x.ranked(4), -2);
        check.due("as many as can be", x.ranked(Integer.MAX_VALUE), -2);
        check.due("of a new object", new Prorates().ranked(0), -2);
        sentence("Promise 35", "NONE: k below 0");
        check.due("-1", x.ranked(-1), -1);
        check.due("as low as can be", x.ranked(Integer.MIN_VALUE), -1);
        check.due("-1 of a new object", new Prorates().ranked(-1), -1);
    }

    private void most() {
        sentence("Promise 36", "By how much a COUPON's SHARE of a TICKET is most off its straight() (either way), what 0 the COUPON, "
            + "the first such, 1 by how much (below 0: less than straight)");
        Prorates unlike = Check.told(ROAD + "ticket t 1000 miles c z d y a;");
        check.due("unlike shares, nothing off", unlike.most(0, 1), 0);
        check.due("the first", unlike.most(0, 0), 0);
        check.due("nothing off: the first", Check.told(ROAD + TRIP).most(0, 0), 0);
        check.due("by nothing", Check.told(ROAD + TRIP).most(0, 1), 0);
        Prorates more = Check.told(ROAD + "proviso z any fixed 700;" + TRIP);
        check.due("the last has more", more.most(0, 0), 2);
        check.due("by 200", more.most(0, 1), 200);
        Prorates less = Check.told(ROAD + "proviso z any fixed 300;" + TRIP);
        check.due("the last has less", less.most(0, 0), 2);
        check.due("by 200 less", less.most(0, 1), -200);
        Prorates like = Check.told(ROAD + "proviso x any fixed 499;proviso y any fixed 1;" + TRIP);
        check.due("more and less alike: the first", like.most(0, 0), 0);
        check.due("by 249", like.most(0, 1), 249);
        Prorates turned = Check.told(ROAD + "proviso x any fixed 1;proviso y any fixed 499;" + TRIP);
        check.due("less and more alike: the first", turned.most(0, 0), 0);
        check.due("by 249 less", turned.most(0, 1), -249);
        Prorates cent = Check.told(ROAD + "proviso y any fixed 251;ticket t 500 miles a x b y c;");
        check.due("one cent less", cent.most(0, 1), -1);
        less.fly(0, 0);
        less.endorse(0, 2, 1);
        check.due("flown ones count: x has 100 more", less.most(0, 1), 100);
        check.due("x's", less.most(0, 0), 0);
        sentence("Promise 36", "NONE: no such ones");
        for (int none : none(1)) {
            check.due("most(" + none + ", 0)", less.most(none, 0), -1);
        }
        for (int none : none(2)) {
            check.due("most(0, " + none + ")", less.most(0, none), -1);
        }
        check.due("of a new object", new Prorates().most(0, 0), -1);
    }

    private void may() {
        sentence("Promise 37", "COUPONS (bits) of a TICKET that may fly next, or be ENDORSED (what 0: fly, 1: be ENDORSED)");
        Prorates x = Check.told(ROAD + "ticket t 8 miles a x b y a x b y a x b y a x b y a;ticket u 5 miles a x b;");
        for (int k = 0; k < 8; k++) {
            check.due("fly, " + k + " flown", x.may(0, 0), 1 << k);
            check.due("be endorsed, " + k + " flown", x.may(0, 1), 256 - (1 << k));
            x.fly(0, k);
        }
        check.due("all flown", x.may(0, 0), 0);
        check.due("all flown, too", x.may(0, 1), 0);
        check.due("the only one of another ticket", x.may(1, 0), 1);
        check.due("it may be endorsed, too", x.may(1, 1), 1);
        x.refund(1);
        check.due("refunded", x.may(1, 0), 0);
        check.due("refunded, too", x.may(1, 1), 0);
        sentence("Promise 37", "NONE: no such ones");
        for (int none : none(2)) {
            check.due("may(" + none + ", 0)", x.may(none, 0), -1);
            check.due("may(0, " + none + ")", x.may(0, none), -1);
        }
        check.due("of a new object", new Prorates().may(0, 0), -1);
    }

    private void sums(String when, Prorates x, int... want) {
        for (int what = 0; what < want.length; what++) {
            check.due("money(" + what + ") " + when, x.money(what), want[what]);
        }
    }

    private void money() {
        sentence("Promise 38", "All money, what 0 FARES, 1 SHARES of FLOWN COUPONS, 2 of the others of TICKETS that aren't REFUNDED, "
            + "3 of those that are, 4 BILLS not CLEARED");
        sums("of a new object", new Prorates(), 0, 0, 0, 0, 0);
        Prorates x = Check.told(ROAD + TRIP + "ticket u 90 miles a y b;");
        sums("at first", x, 1090, 0, 1090, 0, 0);
        x.fly(0, 0);
        x.fly(0, 1);
        sums("flown", x, 1090, 500, 590, 0, 250);
        x.refund(0);
        sums("flown and refunded", x, 1090, 500, 90, 500, 250);
        x.refund(1);
        sums("all refunded", x, 1090, 500, 0, 590, 250);
        x.clear();
        sums("cleared", x, 1090, 500, 0, 590, 0);
        StringBuilder most = new StringBuilder(ROAD);
        for (char t = 'm'; t < 'u'; t++) {
            most.append("ticket ").append(t).append(" 9999999 miles a x b;");
        }
        sums("as much as can be", Check.told(most.toString()), 79999992, 0, 79999992, 0, 0);
        sentence("Promise 38", "NONE for another what");
        for (int what : none(5)) {
            check.due("money(" + what + ")", x.money(what), -1);
        }
    }

    /** Eight tickets of eight coupons, six carriers, sixteen provisos, none of which holds. */
    private static Prorates fullest() {
        StringBuilder text = new StringBuilder("place a;place b;place c;leg a b 1;leg b c 1;");
        for (char c = 'u'; c <= 'z'; c++) {
            text.append("carrier ").append(c).append(';');
        }
        text.append("proviso u a c part9;".repeat(16));
        for (char t = 'm'; t < 'u'; t++) {
            text.append("ticket ").append(t).append(" 8000 miles a u b v a w b x a y b z a u b v a;");
        }
        return Check.told(text.toString());
    }

    private void full() {
        sentence("Terms 1", "ticket, at most 8: a NAME, FARE 1 .. 9999999 (cents), HOW, the first PLACE, then 1 .. 8 COUPONS");
        Prorates x = fullest();
        all("at first", x, 0, 0, 16000, 0, 0, 16, 8);
        all("at first", x, 5, 0, 8000, 0, 0, 8, 0);
        order("at first", x, 0, 1, 2, 3, 4, 5, -2);
        sums("at first", x, 64000, 0, 64000, 0, 0);
        check.due("two of the last ticket", x.carried(7, 1), 2000);
        check.due("the last coupon's cheapest", x.cheapest(7, 7, 0), 0);
        check.due("most off", x.most(7, 1), 0);
        for (int p = 0; p < 16; p++) {
            check.due("proviso " + p + " matters", x.matters(p), 0);
            check.due("proviso " + p + " harms", x.harmed(p, 0), -2);
            check.due("proviso " + p + " holds", x.proviso(p, 6), 0);
        }
        for (int t = 0; t < 8; t++) {
            for (int k = 0; k < 8; k++) {
                check.due("fly(" + t + ", " + k + ")", x.fly(t, k), 1000);
            }
        }
        all("flown", x, 0, 16000, 0, 16, 16, 0, 8);
        all("flown", x, 5, 8000, 0, 8, 8, 0, 0);
        order("flown", x, 0, 1, 2, 3, 4, 5, -2);
        sums("flown", x, 64000, 64000, 0, 0, 48000);
        check.due("by the mile", x.perMile(1), 1000);
        check.due("v's bills", x.bill(1, 0), 16000);
        check.due("u owes all", x.net(0), -48000);
        check.due("to five", x.payments(), 5);
        check.due("the last of them", x.payment(4, 1), 5);
        check.due("all of it", x.clear(), 48000);
        check.due("undone", x.undo(), 13);
        check.due("u owes all again", x.net(0), -48000);
    }
}
