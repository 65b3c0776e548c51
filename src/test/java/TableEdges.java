/** Edges of miles, ways, weights, base amounts, provisos, tickets and coupons: promises 5 to 11. */
final class TableEdges extends EdgePart {
    /** Two ways from a to c, of like miles, and one that is a mile longer; e and f lie apart, g alone. */
    private static final String NET = "place a;place b;place c;place d;place e;place f;place g;"
        + "leg a d 150;leg d c 150;leg a b 100;leg c b 200;leg a c 301;leg e f 9999;";
    private static final String PAIR = "place a;place b;place c;carrier x;carrier y;leg a b 10;leg b c 20;";

    TableEdges(Check check, Doc doc) {
        super(check, doc);
    }

    @Override
    void run() {
        miles();
        ways();
        longestWay();
        weights();
        bases();
        provisos();
        provisosThatHold();
        tickets();
        coupons();
        factors();
    }

    private void miles() {
        sentence("Promise 5", "MILES of two PLACES");
        Prorates x = Check.told(NET);
        check.due("by two legs", x.miles(0, 2), 300);
        sentence("Terms 2", "MILES of two PLACES: the fewest by LEGS (both ways), 0 of one and itself");
        check.due("back", x.miles(2, 0), 300);
        check.due("one leg, told the other way round", x.miles(1, 2), 200);
        check.due("no more than by a leg of its own", x.miles(0, 1), 100);
        check.due("one and itself", x.miles(0, 0), 0);
        check.due("one that no leg goes to and itself", x.miles(6, 6), 0);
        Prorates later = Check.told("place a;place b;place c;leg a b 9999;leg a c 1;leg c b 9997;");
        check.due("fewer by legs told later", later.miles(0, 1), 9998);
        Prorates like = Check.told("place a;place b;place c;leg a b 3;leg a c 1;leg c b 2;");
        check.due("as many", like.miles(1, 0), 3);
        sentence("Promise 5", "-2: there is no WAY");
        check.due("to a place apart", x.miles(0, 4), -2);
        check.due("back", x.miles(5, 2), -2);
        check.due("to a place alone", x.miles(0, 6), -2);
        check.due("no legs at all", Check.told("place a;place b;").miles(0, 1), -2);
        sentence("Promise 5", "NONE: no such ones");
        for (int none : none(7)) {
            check.due("miles(0, " + none + ")", x.miles(0, none), -1);
            check.due("miles(" + none + ", 0)", x.miles(none, 0), -1);
            check.due("one and itself", x.miles(none, none), -1);
        }
        check.due("a place of the text ahead", toldAnew().miles(0, 2), -1);
    }

    /** Told once with three places, then with two. */
    private static Prorates toldAnew() {
        Prorates x = Check.told(PAIR + "base x a b 5;ticket t 5 miles a x b;");
        Check.tell(x, "place a;place b;carrier x;");
        return x;
    }

    private void ways() {
        sentence("Promise 6", "The i-th PLACE (i from 0 on) of the WAY of fewest MILES from one to another, "
            + "of several the first by its PLACES (the first one behind a, and so on)");
        Prorates x = Check.told(NET);
        for (int i = 0; i < 3; i++) {
            check.due("by b, not d: " + i, x.way(0, 2, i), i);
            check.due("and back by b: " + i, x.way(2, 0, i), 2 - i);
        }
        check.due("from d to b by a, 250, not by c, 350", x.way(3, 1, 1), 0);
        check.due("one and itself", x.way(3, 3, 0), 3);
        check.due("a place alone and itself", x.way(6, 6, 0), 6);
        // from a by b or c, then by d or e, all of like miles: the first at each fork
        Prorates forks = Check.told("place a;place z;place e;place d;place c;place b;leg a b 1;leg a c 1;leg b d 1;leg b e 1;"
            + "leg c d 1;leg c e 1;leg d z 1;leg e z 1;");
        int[] places = {0, 4, 2, 1};
        for (int i = 0; i < places.length; i++) {
            check.due("at each fork the first: " + i, forks.way(0, 1, i), places[i]);
        }
        // fewer legs are not better than a lesser place behind a
        Prorates like = Check.told("place a;place b;place c;leg a c 3;leg a b 1;leg b c 2;");
        check.due("two legs by the first place", like.way(0, 2, 1), 1);
        check.due("then the last", like.way(0, 2, 2), 2);
        check.due("back: the first place is the last itself", like.way(2, 0, 1), 0);
        sentence("Promise 6", "-2: there are not so many, or no WAY");
        check.due("one too many", x.way(0, 2, 3), -2);
        check.due("one too many of one leg", x.way(0, 1, 2), -2);
        check.due("one too many of itself", x.way(3, 3, 1), -2);
        check.due("far too many", x.way(0, 2, 12), -2);
        check.due("as many as can be", x.way(0, 2, Integer.MAX_VALUE), -2);
        check.due("no way", x.way(0, 4, 0), -2);
        check.due("no way, one too many", x.way(0, 4, 9), -2);
        sentence("Promise 6", "NONE: no such ones");
        for (int none : none(7)) {
            check.due("way(" + none + ", 0, 0)", x.way(none, 0, 0), -1);
            check.due("way(0, " + none + ", 0)", x.way(0, none, 0), -1);
            check.due("way(" + none + ", " + none + ", 0)", x.way(none, none, 0), -1);
        }
        check.due("i below 0", x.way(0, 2, -1), -1);
        check.due("i as low as can be", x.way(0, 2, Integer.MIN_VALUE), -1);
        check.due("i below 0, no way", x.way(0, 4, -1), -1);
    }

    /** A way by all twelve places, and legs of the most miles. */
    private void longestWay() {
        sentence("Promise 6", "-2: there are not so many, or no WAY");
        StringBuilder line = new StringBuilder();
        for (char a = 'a'; a <= 'l'; a++) {
            line.append("place ").append(a).append(';');
        }
        for (char a = 'a'; a < 'l'; a++) {
            line.append("leg ").append(a).append(' ').append((char) (a + 1)).append(" 9999;");
        }
        Prorates x = Check.told(line + "carrier x;rate 99;ticket t 9999999 miles a x l;ticket u 1 base l x a;");
        check.due("the most miles", x.miles(0, 11), 109989);
        for (int i = 0; i < 12; i++) {
            check.due("place " + i, x.way(0, 11, i), i);
            check.due("place " + i + " back", x.way(11, 0, i), 11 - i);
        }
        check.due("a thirteenth", x.way(0, 11, 12), -2);
        sentence("Terms 2", "by miles: MILES times WEIGHT");
        check.due("the greatest by miles without a band", x.coupon(0, 0, 4), 10998900);
        sentence("Terms 2", "or MILES times rate, if there is none");
        check.due("the greatest by rate", x.coupon(1, 0, 4), 10888911);
    }

    private void weights() {
        sentence("Promise 7", "WEIGHT of MILES (1 .. 200000)");
        Prorates x = Check.told("band 10 150;band 11 999;band 9999 1;");
        check.due("the fewest", x.weight(1), 150);
        check.due("the most", x.weight(200000), 100);
        sentence("Promise 7", "NONE: no such ones");
        for (int miles : new int[] {0, -1, 200001, Integer.MAX_VALUE, Integer.MIN_VALUE}) {
            check.due("weight(" + miles + ")", x.weight(miles), -1);
            check.due("weight(" + miles + ") of a new object", new Prorates().weight(miles), -1);
        }
        sentence("Terms 2", "WEIGHT of MILES: that of the first band that they aren't beyond, 100 behind all");
        int[][] want = {{9, 150}, {10, 150}, {11, 999}, {12, 1}, {9998, 1}, {9999, 1}, {10000, 100}};
        for (int[] row : want) {
            check.due("weight(" + row[0] + ")", x.weight(row[0]), row[1]);
        }
        check.due("no band at all", new Prorates().weight(1), 100);
        Prorates one = Check.told("band 1 7;");
        check.due("up to the band", one.weight(1), 7);
        check.due("behind it", one.weight(2), 100);
    }

    private void bases() {
        sentence("Promise 8", "What a CARRIER has as base amount of two PLACES");
        Prorates x = Check.told("place a;place b;place c;carrier x;carrier y;base x b a 70;base y a b 1;base x a c 999999;");
        check.due("as told", x.base(0, 1, 0), 70);
        check.due("either way", x.base(0, 0, 1), 70);
        check.due("of another carrier", x.base(1, 0, 1), 1);
        check.due("the greatest", x.base(0, 2, 0), 999999);
        sentence("Promise 8", "-2: none");
        check.due("of those places", x.base(0, 1, 2), -2);
        check.due("of that carrier", x.base(1, 2, 0), -2);
        check.due("behind another text", toldAnew().base(0, 0, 1), -2);
        sentence("Promise 8", "NONE: no such ones, alike");
        check.due("alike", x.base(0, 0, 0), -1);
        for (int none : none(3)) {
            check.due("base(0, " + none + ", 1)", x.base(0, none, 1), -1);
            check.due("base(0, 1, " + none + ")", x.base(0, 1, none), -1);
            check.due("base(0, " + none + ", " + none + ")", x.base(0, none, none), -1);
        }
        for (int none : none(2)) {
            check.due("base(" + none + ", 0, 1)", x.base(none, 0, 1), -1);
        }
    }

    private void provisos() {
        sentence("Promise 9", "Of a PROVISO, what 0 its CARRIER, 1, 2 its PLACES as told (-2: any), "
            + "3 KIND (1 fixed, 2 part, 3 least, 4 most), 4 the amount, 5 with whom (-2: nobody), "
            + "6 for how many COUPONS of all TICKETS it HOLDS now");
        Prorates x = Check.told(PAIR + "proviso y b a part 100 with x;proviso x any most 999999;proviso x a c fixed 1;"
            + "proviso x any least 5;ticket t 9 miles a x b;");
        int[][] want = {{1, 1, 0, 2, 100, 0, 0}, {0, -2, -2, 4, 999999, -2, 1}, {0, 0, 2, 1, 1, -2, 0}, {0, -2, -2, 3, 5, -2, 0}};
        for (int p = 0; p < want.length; p++) {
            for (int what = 0; what < 7; what++) {
                check.due("proviso(" + p + ", " + what + ")", x.proviso(p, what), want[p][what]);
            }
        }
        sentence("Promise 9", "IndexOutOfBoundsException: no such one");
        for (int none : none(4)) {
            check.due("proviso(" + none + ", 0)", Check.answer(() -> x.proviso(none, 0)), Check.OUT_OF_BOUNDS);
            check.due("proviso(" + none + ", 6)", Check.answer(() -> x.proviso(none, 6)), Check.OUT_OF_BOUNDS);
        }
        check.due("of a new object", Check.answer(() -> new Prorates().proviso(0, 0)), Check.OUT_OF_BOUNDS);
        sentence("Promise 9", "NoSuchElementException: no such what");
        for (int none : none(7)) {
            check.due("proviso(0, " + none + ")", Check.answer(() -> x.proviso(0, none)), Check.NO_SUCH);
        }
        sentence("Terms 3", "IndexOutOfBoundsException ahead of NoSuchElementException");
        check.due("neither one nor what", Check.answer(() -> x.proviso(4, 7)), Check.OUT_OF_BOUNDS);
        check.due("neither below 0", Check.answer(() -> x.proviso(-1, -1)), Check.OUT_OF_BOUNDS);
        check.due("neither a ticket nor what", Check.answer(() -> x.ticket(1, 8)), Check.OUT_OF_BOUNDS);
        check.due("neither below 0", Check.answer(() -> x.ticket(-1, -1)), Check.OUT_OF_BOUNDS);
    }

    private void provisosThatHold() {
        sentence("Terms 2", "A PROVISO HOLDS for a COUPON: the first told that is of its CARRIER, of its two PLACES or any, and, "
            + "with another CARRIER, if another COUPON of the TICKET is of that one");
        Prorates any = Check.told(PAIR + "proviso y any fixed 9;proviso x any fixed 1;proviso x any fixed 2;ticket t 9 miles a x b;");
        check.due("the first of its carrier", any.coupon(0, 0, 7), 1);
        Prorates pair = Check.told(PAIR + "proviso x a c fixed 1;proviso x b c fixed 2;proviso x b a fixed 3;proviso x any fixed 4;"
            + "ticket t 9 miles a x b;ticket u 9 miles b x a;ticket v 9 miles a x c;");
        check.due("of both its places, either way", pair.coupon(0, 0, 7), 2);
        check.due("and back", pair.coupon(1, 0, 7), 2);
        check.due("the places of its ends, not of its way", pair.coupon(2, 0, 7), 0);
        Prorates with = Check.told(PAIR + "carrier z;proviso x any fixed 1 with y;proviso x any fixed 2 with z;"
            + "ticket t 9 miles a x b;ticket u 9 miles a x b y a;ticket v 9 miles a z b y c x a;ticket w 9 miles a z b x a x b;");
        check.dueAll("alone", Check.coupons(with, 0, 7), -2);
        check.dueAll("with y behind it", Check.coupons(with, 1, 7), 0, -2);
        check.dueAll("with both: the first told", Check.coupons(with, 2, 7), -2, -2, 0);
        check.dueAll("with z alone, each of two", Check.coupons(with, 3, 7), -2, 1, 1);
        check.dueAll("alone, asked behind one with others", Check.coupons(with, 0, 7), -2);
        Prorates eight = Check.told(PAIR + "carrier z;proviso x any fixed 1 with y;ticket t 9 miles a x b x a x b x a x b x a x b z a;");
        check.dueAll("without y on all of eight", Check.coupons(eight, 0, 7), -2, -2, -2, -2, -2, -2, -2, -2);
        eight.endorse(0, 7, 1);
        check.dueAll("with y as the last of eight", Check.coupons(eight, 0, 7), 0, 0, 0, 0, 0, 0, 0, -2);
        with.fly(2, 0);
        with.fly(2, 1);
        check.due("with one that is flown", with.coupon(2, 2, 7), 0);
        with.endorse(1, 1, 2);
        check.due("with another one now", with.coupon(1, 0, 7), 1);
        sentence("Terms 2", "no other one does");
        check.due("the first told of one carrier", any.proviso(1, 6), 1);
        check.due("the second", any.proviso(2, 6), 0);
        check.due("of another carrier", any.proviso(0, 6), 0);
        Prorates none = Check.told(PAIR + "proviso x b c fixed 1;proviso y a b fixed 1;ticket t 9 miles a x b;");
        check.due("none of both", none.coupon(0, 0, 7), -2);
        sentence("Promise 9", "6 for how many COUPONS of all TICKETS it HOLDS now");
        check.due("of two tickets", pair.proviso(2, 6), 2);
        check.due("a proviso that never holds", pair.proviso(3, 6), 0);
        Prorates full = Check.told(PAIR + "proviso x any part 1;" + "ticket t 9 miles a x b x a x b x a x b x a x b x a;"
            + "ticket u 9 miles a x b x a x b x a x b x a x b x a;");
        check.due("for all of two full tickets", full.proviso(0, 6), 16);
        full.fly(0, 0);
        full.refund(1);
        check.due("flown and refunded ones, too", full.proviso(0, 6), 16);
        full.endorse(0, 7, 1);
        check.due("one less now", full.proviso(0, 6), 15);
    }

    private void tickets() {
        sentence("Promise 10", "Of a TICKET, what 0 FARE, 1 HOW (0 miles, 1 base), 2 COUPONS, 3 FLOWN ones, 4 the ISSUER, "
            + "5 whether it is REFUNDED (1, 0), 6 MILES of all COUPONS together, 7 SHARES of FLOWN ones together");
        Prorates x = Check.told(PAIR + "ticket t 9999999 base c y a;ticket u 1 miles a x b y a x b y a x b y a x b y a;");
        int[][] want = {{9999999, 1, 1, 0, 1, 0, 30, 0}, {1, 0, 8, 0, 0, 0, 80, 0}};
        for (int t = 0; t < 2; t++) {
            for (int what = 0; what < 8; what++) {
                check.due("ticket(" + t + ", " + what + ")", x.ticket(t, what), want[t][what]);
            }
        }
        for (int k = 0; k < 8; k++) {
            x.fly(1, k);
            check.due("flown ones", x.ticket(1, 3), k + 1);
            check.due("one cent, of the first", x.ticket(1, 7), 1);
        }
        x.fly(0, 0);
        check.due("all of the fare", x.ticket(0, 7), 9999999);
        x.undo();
        x.refund(0);
        check.due("refunded", x.ticket(0, 5), 1);
        check.due("flown, not refunded", x.ticket(1, 5), 0);
        check.due("shares of none flown", x.ticket(0, 7), 0);
        sentence("Promise 10", "IndexOutOfBoundsException: no such one");
        for (int none : none(2)) {
            check.due("ticket(" + none + ", 0)", Check.answer(() -> x.ticket(none, 0)), Check.OUT_OF_BOUNDS);
        }
        check.due("of a new object", Check.answer(() -> new Prorates().ticket(0, 0)), Check.OUT_OF_BOUNDS);
        check.due("a ticket of the text ahead", Check.answer(() -> toldAnew().ticket(0, 0)), Check.OUT_OF_BOUNDS);
        sentence("Promise 10", "NoSuchElementException: no such what");
        for (int none : none(8)) {
            check.due("ticket(0, " + none + ")", Check.answer(() -> x.ticket(0, none)), Check.NO_SUCH);
        }
    }

    private void coupons() {
        sentence("Promise 11", "Of a COUPON, what 0 its CARRIER, 1 from where, 2 to where, 3 MILES, 4 FACTOR, "
            + "5 whether it is FLOWN (1, 0), 6 BY, 7 the PROVISO that HOLDS (-2: none)");
        Prorates x = Check.told(PAIR + "proviso y any fixed 50;ticket t 100 miles a x b y c x a;");
        int[][] want = {{0, 0, 1, 10, 1000, 0, 0, -2}, {1, 1, 2, 20, 2000, 0, 1, 0}, {0, 2, 0, 30, 3000, 0, 0, -2}};
        for (int k = 0; k < want.length; k++) {
            for (int what = 0; what < 8; what++) {
                check.due("coupon(0, " + k + ", " + what + ")", x.coupon(0, k, what), want[k][what]);
            }
        }
        x.fly(0, 0);
        check.dueAll("flown", Check.coupons(x, 0, 5), 1, 0, 0);
        x.fly(0, 1);
        check.dueAll("by", Check.coupons(x, 0, 6), 5, 5, 0);
        check.dueAll("holds for a flown one, too", Check.coupons(x, 0, 7), -2, 0, -2);
        sentence("Promise 11", "NONE: no such ones");
        for (int none : none(1)) {
            check.due("coupon(" + none + ", 0, 0)", x.coupon(none, 0, 0), -1);
        }
        for (int none : none(3)) {
            check.due("coupon(0, " + none + ", 0)", x.coupon(0, none, 0), -1);
        }
        for (int none : none(8)) {
            check.due("coupon(0, 0, " + none + ")", x.coupon(0, 0, none), -1);
        }
        check.due("of a new object", new Prorates().coupon(0, 0, 0), -1);
    }

    private void factors() {
        sentence("Terms 2", "FACTOR of a COUPON: by miles: MILES times WEIGHT");
        Prorates far = Check.told("place a;place b;place c;carrier x;carrier y;leg a b 9999;leg b c 1;band 9998 5;band 9999 999;rate 99;"
            + "base x a b 999999;base y b c 1;ticket t 1 miles a x b x c x a;ticket u 1 base a x b x c y b y a;");
        check.dueAll("the most of a band, the least, behind all", Check.coupons(far, 0, 4), 9989001, 5, 1000000);
        sentence("Terms 2", "by base: the base amount of its CARRIER there, or MILES times rate, if there is none");
        check.dueAll("told, rate, told of another carrier, rate", Check.coupons(far, 1, 4), 999999, 99, 1, 989901);
        far.endorse(1, 0, 1);
        check.due("of the carrier that it is now", far.coupon(1, 0, 4), 989901);
        Prorates ten = Check.told(PAIR + "ticket t 1 base a x b;");
        check.due("rate 10, if none is told", ten.coupon(0, 0, 4), 100);
    }
}
