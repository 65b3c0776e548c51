import java.util.List;
import java.util.function.Consumer;

/** Edges of what is done by call, billed, cleared, paid and undone: promises 21 to 32, and the terms about these. */
final class DoneEdges extends EdgePart {
    private static final String ROAD = Check.ROAD;
    private static final String TRIP = Check.TRIP;
    /** The first ticket is issued by x, the second one by y. */
    private static final String TRIPS = ROAD + "proviso y any most 240;" + TRIP + "ticket u 90 miles a y b x c;";
    /** Six carriers, by whose tickets any one can owe any other one. */
    private static final String SIX = "place a;place b;carrier u;carrier v;carrier w;carrier x;carrier y;carrier z;leg a b 1;";
    private static final int NO_NET = -1000000000;

    DoneEdges(Check check, Doc doc) {
        super(check, doc);
    }

    @Override
    void run() {
        fly();
        flyRefused();
        endorse();
        endorseRefused();
        refund();
        issuer();
        bill();
        net();
        cleared();
        payments();
        paymentsOfLikeOnes();
        payment();
        clear();
        undo();
        undoEach();
        undoFourteen();
        undoAllSorts();
        wouldEndorse();
        cheapest();
        asked();
        severalAnswers();
        lastCall();
    }

    private static Prorates trips() {
        return Check.told(TRIPS);
    }

    /** Of the first ticket x's coupon is flown. */
    private static Prorates oneFlown() {
        Prorates x = trips();
        x.fly(0, 0);
        return x;
    }

    /** All of the first ticket is flown. */
    private static Prorates allFlown() {
        Prorates x = oneFlown();
        x.fly(0, 1);
        x.fly(0, 2);
        return x;
    }

    /** Of the first ticket one coupon is flown, then it is refunded. */
    private static Prorates refunded() {
        Prorates x = oneFlown();
        x.refund(0);
        return x;
    }

    private void fly() {
        sentence("Promise 21", "A COUPON flies: its SHARE");
        Prorates x = trips();
        // 240 by y's most; of 760 a third, and two
        check.due("the first", x.fly(0, 0), 253);
        check.due("flown ones", x.ticket(0, 3), 1);
        check.due("the second", x.fly(0, 1), 240);
        check.due("the last", x.fly(0, 2), 507);
        check.due("all flown", x.ticket(0, 7), 1000);
        check.due("the first of another ticket", x.fly(1, 0), 45);
        Prorates full = Check.told(ROAD + "ticket t 9999999 miles a x b y a x b y a x b y a x b y a;");
        int sum = 0;
        for (int k = 0; k < 8; k++) {
            sum += full.fly(0, k);
        }
        check.due("eight of eight, to the last cent", sum, 9999999);
        check.due("nothing for a ninth", full.fly(0, 8), -1);
    }

    private void flyRefused() {
        sentence("Promise 21", "-2: it is FLOWN");
        refused("the first again", DoneEdges::oneFlown, x -> x.fly(0, 0), -2);
        refused("the last again", DoneEdges::allFlown, x -> x.fly(0, 2), -2);
        sentence("Promise 21", "-3: the TICKET is REFUNDED");
        refused("the next one", DoneEdges::refunded, x -> x.fly(0, 1), -3);
        sentence("Promise 21", "-4: one ahead of it isn't FLOWN");
        refused("the second first", DoneEdges::trips, x -> x.fly(0, 1), -4);
        refused("the last first", DoneEdges::trips, x -> x.fly(0, 2), -4);
        refused("the last behind the first", DoneEdges::oneFlown, x -> x.fly(0, 2), -4);
        sentence("Promise 21", "NONE: no such ones");
        for (int none : none(2)) {
            check.due("fly(" + none + ", 0)", trips().fly(none, 0), -1);
        }
        for (int none : none(3)) {
            check.due("fly(0, " + none + ")", trips().fly(0, none), -1);
        }
        refused("one that another ticket has", DoneEdges::trips, x -> x.fly(1, 2), -1);
        refused("one behind the last, all flown", DoneEdges::allFlown, x -> x.fly(0, 3), -1);
    }

    private void endorse() {
        sentence("Promise 22", "A COUPON is ENDORSED to a CARRIER: its SHARE then");
        Prorates x = trips();
        check.due("the last to y: 240 by its most, too", x.endorse(0, 2, 1), 240);
        check.due("x has the rest", x.share(0, 0), 520);
        check.due("y's own to z: straight", x.endorse(0, 1, 2), 380);
        sentence("Terms 2", "ENDORSED: a COUPON that isn't FLOWN is another CARRIER's from then on");
        check.dueAll("carriers", Check.coupons(x, 0, 0), 0, 2, 1);
        x.fly(0, 0);
        x.fly(0, 1);
        check.due("z bills for it", x.bill(2, 0), 380);
        check.due("y does not", x.bill(1, 0), 0);
        check.due("it is z's when flown, too", x.carrier(2, 0), 380);
        check.due("and back again: what is left", x.endorse(0, 2, 2), 240);
    }

    private void endorseRefused() {
        sentence("Promise 22", "-2: it is FLOWN");
        refused("a flown one", DoneEdges::oneFlown, x -> x.endorse(0, 0, 1), -2);
        refused("a flown one to its own", DoneEdges::oneFlown, x -> x.endorse(0, 0, 0), -2);
        refused("the last flown one", DoneEdges::allFlown, x -> x.endorse(0, 2, 0), -2);
        sentence("Promise 22", "-3: the TICKET is REFUNDED");
        refused("of a refunded one", DoneEdges::refunded, x -> x.endorse(0, 1, 0), -3);
        sentence("Promise 22", "-4: it is that one's");
        refused("the first", DoneEdges::trips, x -> x.endorse(0, 0, 0), -4);
        refused("the last", DoneEdges::trips, x -> x.endorse(0, 2, 2), -4);
        Prorates twice = trips();
        twice.endorse(0, 0, 2);
        check.due("twice", twice.endorse(0, 0, 2), -4);
        check.due("back to the issuer", twice.endorse(0, 0, 0), 253);
        sentence("Promise 22", "NONE: no such ones");
        for (int none : none(2)) {
            check.due("endorse(" + none + ", 0, 1)", trips().endorse(none, 0, 1), -1);
        }
        for (int none : none(3)) {
            check.due("endorse(0, " + none + ", 1)", trips().endorse(0, none, 1), -1);
            check.due("endorse(0, 0, " + none + ")", trips().endorse(0, 0, none), -1);
        }
        refused("to none", DoneEdges::trips, x -> x.endorse(0, 0, 3), -1);
    }

    private void refund() {
        sentence("Promise 23", "A TICKET is REFUNDED: SHARES of all COUPONS that aren't FLOWN together");
        check.due("none flown: all of the fare", trips().refund(0), 1000);
        check.due("one flown", oneFlown().refund(0), 747);
        Prorates x = oneFlown();
        x.fly(0, 1);
        check.due("the last only", x.refund(0), 507);
        check.due("of nothing", nothingLeft().refund(0), 0);
        sentence("Terms 2", "REFUNDED: a TICKET with COUPONS that aren't FLOWN: none of these flies any more (SHARES as they are)");
        Prorates y = refunded();
        check.due("the next one", y.fly(0, 1), -3);
        check.dueAll("shares", Check.shares(y, 0), 253, 240, 507);
        check.due("another ticket flies", y.fly(1, 0), 45);
        sentence("Promise 23", "-2: there are none");
        refused("all flown", DoneEdges::allFlown, p -> p.refund(0), -2);
        sentence("Promise 23", "-3: it is REFUNDED");
        refused("again", DoneEdges::refunded, p -> p.refund(0), -3);
        sentence("Promise 23", "NONE: no such one");
        for (int none : none(2)) {
            check.due("refund(" + none + ")", trips().refund(none), -1);
        }
        check.due("of a new object", new Prorates().refund(0), -1);
    }

    /** A ticket of which x has flown all the fare, and y has not flown. */
    private static Prorates nothingLeft() {
        Prorates x = Check.told(ROAD + "proviso x any fixed 1000;ticket t 1000 miles a x b y c;");
        x.fly(0, 0);
        return x;
    }

    private void issuer() {
        sentence("Terms 2", "ISSUER of a TICKET: the CARRIER of its first COUPON as told");
        Prorates x = trips();
        x.endorse(0, 0, 2);
        check.due("the first coupon is another one's", x.ticket(0, 4), 0);
        check.due("of the second ticket", x.ticket(1, 4), 1);
        sentence("Terms 2", "As a COUPON flies, its CARRIER (if it isn't the ISSUER) BILLS the ISSUER its SHARE");
        x.fly(0, 0);
        check.due("of the first, too, if it is endorsed", x.bill(2, 0), 253);
        x.endorse(0, 1, 0);
        x.fly(0, 1);
        check.due("the issuer bills nobody", x.money(4), 253);
        x.fly(0, 2);
        check.due("what z bills comes together", x.bill(2, 0), 253 + x.share(0, 2));
        check.due("no bill the other way", x.bill(0, 2), 0);
    }

    private void bill() {
        sentence("Promise 26", "What a CARRIER has BILLED another one (not CLEARED yet)");
        Prorates x = allFlown();
        check.due("y", x.bill(1, 0), 240);
        check.due("z", x.bill(2, 0), 507);
        check.due("z bills y nothing", x.bill(2, 1), 0);
        x.clear();
        check.due("cleared", x.bill(1, 0), 0);
        sentence("Promise 26", "NONE: no such ones, alike");
        for (int c = 0; c < 3; c++) {
            check.due("alike: " + c, x.bill(c, c), -1);
        }
        for (int none : none(3)) {
            check.due("bill(" + none + ", 0)", x.bill(none, 0), -1);
            check.due("bill(0, " + none + ")", x.bill(0, none), -1);
        }
        check.due("of a new object", new Prorates().bill(0, 1), -1);
    }

    private void net() {
        sentence("Promise 27", "NET (may be below 0)");
        Prorates x = allFlown();
        check.due("who owes", x.net(0), -747);
        check.due("who is owed", x.net(1), 240);
        sentence("Terms 2", "NET of a CARRIER: its own BILLS to all others less theirs to it");
        x.fly(1, 0);
        x.fly(1, 1);
        check.due("x bills y 45, and owes 747", x.net(0), 45 - 747);
        check.due("y owes 45 of 240", x.net(1), 240 - 45);
        check.due("z", x.net(2), 507);
        Prorates one = Check.told(ROAD + "ticket t 1 miles a x b y c;ticket u 2 miles a x b y c;");
        one.fly(1, 0);
        one.fly(1, 1);
        check.due("a net of -1 is no NONE", one.net(0), -1);
        Prorates all = Check.told(SIX + many(8, "9999999 miles a u b v a;"));
        for (int t = 0; t < 8; t++) {
            all.endorse(t, 0, 1);
            all.fly(t, 0);
            all.fly(t, 1);
        }
        check.due("as much as can be owed", all.net(0), -79999992);
        check.due("as much as can be had", all.net(1), 79999992);
        sentence("Promise 27", "-1000000000: no such CARRIER");
        for (int none : none(3)) {
            check.due("net(" + none + ")", x.net(none), NO_NET);
        }
        check.due("of a new object", new Prorates().net(0), NO_NET);
    }

    private static String many(int n, String ticket) {
        StringBuilder text = new StringBuilder();
        for (int i = 0; i < n; i++) {
            text.append("ticket ").append((char) ('m' + i)).append("t ").append(ticket);
        }
        return text.toString();
    }

    private void cleared() {
        sentence("Promise 28", "What a CARRIER has CLEARED in all (may be below 0)");
        Prorates x = oneFlown();
        check.due("nothing yet", x.cleared(0), 0);
        x.fly(0, 1);
        x.clear();
        check.due("who has paid", x.cleared(0), -240);
        check.due("who was paid", x.cleared(1), 240);
        sentence("Terms 2", "CLEARED: each one's NET is added to what it has CLEARED, all BILLS are 0 then");
        check.due("nothing billed any more", x.money(4), 0);
        check.due("nets are 0, too", x.net(0), 0);
        check.due("a bill is 0", x.bill(1, 0), 0);
        x.fly(0, 2);
        x.fly(1, 0);
        x.fly(1, 1);
        x.clear();
        check.due("x's second", x.cleared(0), -240 - 507 + 45);
        check.due("y's second", x.cleared(1), 240 - 45);
        check.due("z's first", x.cleared(2), 507);
        sentence("Promise 28", "-1000000000: no such one");
        for (int none : none(3)) {
            check.due("cleared(" + none + ")", x.cleared(none), NO_NET);
        }
        check.due("of a new object", new Prorates().cleared(0), NO_NET);
    }

    /** Flies all that can fly. */
    private static Prorates flyAll(Prorates x) {
        for (int t = 0; t < x.count(8); t++) {
            for (int k = 0; k < x.ticket(t, 2); k++) {
                x.fly(t, k);
            }
        }
        return x;
    }

    private void paid(Prorates x, int[][] want) {
        check.due("how many", x.payments(), want.length);
        for (int i = 0; i < want.length; i++) {
            for (int what = 0; what < 3; what++) {
                check.due("payment(" + i + ", " + what + ")", x.payment(i, what), want[i][what]);
            }
        }
        check.due("one more", x.payment(want.length, 0), -2);
    }

    private void payments() {
        sentence("Promise 29", "How many PAYMENTS would be made now");
        check.due("of a new object", new Prorates().payments(), 0);
        check.due("nothing billed", oneFlown().payments(), 0);
        check.due("two who are owed", allFlown().payments(), 2);
        Prorates x = allFlown();
        x.clear();
        check.due("all cleared", x.payments(), 0);
        sentence("Terms 2", "PAYMENTS by which NETS are cleared, one by one, till all are 0: of who owes most (of several the first) "
            + "to whom most is owed (the first), the lesser of both");
        // u owes 500, v 400; w is owed 300, x 300, y 200
        paid(flyAll(Check.told(SIX + "ticket m 600 miles a u b w a;ticket n 400 miles a u b y a;ticket o 600 miles a v b x a;"
            + "ticket p 200 miles a v b w a;")), new int[][] {{0, 2, 400}, {1, 3, 300}, {0, 4, 100}, {1, 4, 100}});
        // as many payments as can be: u owes five others
        paid(flyAll(Check.told(SIX + "ticket m 20 miles a u b v a;ticket n 40 miles a u b w a;ticket o 60 miles a u b x a;"
            + "ticket p 80 miles a u b y a;ticket q 100 miles a u b z a;")),
            new int[][] {{0, 5, 50}, {0, 4, 40}, {0, 3, 30}, {0, 2, 20}, {0, 1, 10}});
        // and five others owe z
        paid(flyAll(Check.told(SIX + "ticket m 20 miles a u b z a;ticket n 40 miles a v b z a;ticket o 60 miles a w b z a;"
            + "ticket p 80 miles a x b z a;ticket q 100 miles a y b z a;")),
            new int[][] {{4, 5, 50}, {3, 5, 40}, {2, 5, 30}, {1, 5, 20}, {0, 5, 10}});
    }

    private void paymentsOfLikeOnes() {
        sentence("Terms 2", "of who owes most (of several the first) to whom most is owed (the first), the lesser of both");
        // u, v, w owe 50 each; x, y, z are owed 50 each
        paid(flyAll(Check.told(SIX + "ticket m 100 miles a w b x a;ticket n 100 miles a v b y a;ticket o 100 miles a u b z a;")),
            new int[][] {{0, 3, 50}, {1, 4, 50}, {2, 5, 50}});
        // who owes stands behind whom it owes
        paid(flyAll(Check.told(SIX + "ticket m 100 miles a z b u a;ticket n 100 miles a y b v a;")), new int[][] {{4, 0, 50}, {5, 1, 50}});
        // u owes v, v owes w: v takes no part
        paid(flyAll(Check.told(SIX + "ticket m 100 miles a u b v a;ticket n 100 miles a v b w a;")), new int[][] {{0, 2, 50}});
        // a circle
        paid(flyAll(Check.told(SIX + "ticket m 2 miles a u b v a;ticket n 2 miles a v b w a;ticket o 2 miles a w b u a;")), new int[][] {});
        // one cent
        paid(flyAll(Check.told(SIX + "ticket m 2 miles a u b v a;")), new int[][] {{0, 1, 1}});
    }

    private void payment() {
        sentence("Promise 30", "Of the i-th (i from 0 on), what 0 who pays, 1 to whom, 2 how much");
        Prorates x = allFlown();
        paid(x, new int[][] {{0, 2, 507}, {0, 1, 240}});
        sentence("Promise 30", "-2: there are not so many");
        check.due("of none", new Prorates().payment(0, 0), -2);
        check.due("one too many", x.payment(2, 2), -2);
        check.due("as many as can be", x.payment(Integer.MAX_VALUE, 1), -2);
        sentence("Promise 30", "NONE: no such ones");
        check.due("below 0", x.payment(-1, 0), -1);
        check.due("far below 0", x.payment(Integer.MIN_VALUE, 0), -1);
        for (int what : none(3)) {
            check.due("payment(0, " + what + ")", x.payment(0, what), -1);
            check.due("payment(2, " + what + ")", x.payment(2, what), -1);
        }
    }

    private void clear() {
        sentence("Promise 24", "All is CLEARED: PAYMENTS together");
        check.due("240 and 507", allFlown().clear(), 747);
        Prorates circle = flyAll(Check.told(SIX + "ticket m 2 miles a u b v a;ticket n 2 miles a v b w a;ticket o 2 miles a w b u a;"));
        check.due("bills, but no payments", circle.clear(), 0);
        check.due("they are cleared all the same", circle.money(4), 0);
        check.due("one cent", flyAll(Check.told(SIX + "ticket m 2 miles a u b v a;")).clear(), 1);
        Prorates twice = allFlown();
        check.due("by two payments", twice.clear(), 747);
        twice.fly(1, 0);
        twice.fly(1, 1);
        check.due("the first carrier's bill alone", twice.money(4), 45);
        check.due("then by one", twice.clear(), 45);
        sentence("Promise 24", "-2, and nothing happens: there are no BILLS");
        refused("a new object", Prorates::new, Prorates::clear, -2);
        refused("nothing flown", DoneEdges::trips, Prorates::clear, -2);
        refused("the issuer only", DoneEdges::oneFlown, Prorates::clear, -2);
        refused("all cleared", () -> {
            Prorates x = allFlown();
            x.clear();
            return x;
        }, Prorates::clear, -2);
        check.due("the circle again", circle.clear(), -2);
        refused("a share of nothing", () -> flyAll(nothingLeft()), Prorates::clear, -2);
    }

    private void undo() {
        sentence("Promise 25", "The latest that can be undone is undone: how many more can be");
        Prorates x = allFlown();
        check.due("two more", x.undo(), 2);
        check.due("the last isn't flown", x.coupon(0, 2, 5), 0);
        check.due("the second is", x.coupon(0, 1, 5), 1);
        check.due("one more", x.undo(), 1);
        check.due("none more", x.undo(), 0);
        sentence("Promise 25", "NONE: none");
        check.due("all is undone", x.undo(), -1);
        check.due("and again", x.undo(), -1);
        alike("nothing has happened", x, trips());
        refused("a new object", Prorates::new, Prorates::undo, -1);
        refused("a text alone", DoneEdges::trips, Prorates::undo, -1);
    }

    /** What is done is undone, and all stands as ahead of it. */
    private void undone(String what, Consumer<Prorates> ahead, Consumer<Prorates> deed) {
        Prorates x = trips();
        ahead.accept(x);
        int before = x.count(9);
        deed.accept(x);
        check.due(what + " can be undone", x.count(9), before + 1);
        check.due(what + " is undone", x.undo(), before);
        Prorates same = trips();
        ahead.accept(same);
        alike(what + " undone", x, same);
    }

    private void undoEach() {
        sentence("Terms 3", "What is done by call (FLOWN, ENDORSED, REFUNDED, CLEARED) can be undone, the latest first");
        undone("the issuer's flight", x -> { }, x -> x.fly(0, 0));
        undone("a flight that bills", x -> x.fly(0, 0), x -> x.fly(0, 1));
        undone("a flight that bills more", x -> {
            x.fly(0, 0);
            x.fly(0, 1);
            x.endorse(0, 2, 1);
        }, x -> x.fly(0, 2));
        undone("an endorsement", x -> x.endorse(0, 2, 1), x -> x.endorse(0, 2, 0));
        undone("a refund", x -> x.fly(0, 0), x -> x.refund(0));
        undone("a refund of none flown", x -> { }, x -> x.refund(0));
        undone("the first clearing", DoneEdges::flyAll, Prorates::clear);
        undone("the second clearing", x -> {
            x.fly(0, 0);
            x.fly(0, 1);
            x.clear();
            x.fly(0, 2);
            x.fly(1, 0);
            x.fly(1, 1);
        }, Prorates::clear);
    }

    private void undoFourteen() {
        sentence("Terms 3", "14 at most (the eldest are forgotten)");
        for (int deeds : new int[] {13, 14, 15, 16, 28, 29, 40}) {
            Prorates x = trips();
            for (int i = 1; i <= deeds; i++) {
                x.endorse(0, 0, i % 3);
                check.due("what can be undone of " + i, x.count(9), Math.min(i, 14));
            }
            int kept = Math.min(deeds, 14);
            for (int i = 1; i <= kept; i++) {
                check.due(deeds + " deeds, undo " + i, x.undo(), kept - i);
                check.due("whose it is", x.coupon(0, 0, 0), (deeds - i) % 3);
            }
            check.due("the eldest are forgotten", x.undo(), -1);
            check.due("whose it stays", x.coupon(0, 0, 0), (deeds - kept) % 3);
        }
        Prorates x = trips();
        int now = 0;
        for (int i = 1; i <= 20; i++) {
            x.endorse(0, 0, i % 3);
        }
        for (int i = 0; i < 10; i++) {
            x.undo();
        }
        check.due("four are left", x.count(9), 4);
        for (int i = 11; i <= 22; i++) {
            now = i % 3;
            x.endorse(0, 0, now);
        }
        check.due("fourteen again", x.count(9), 14);
        for (int i = 21; i >= 8; i--) {
            x.undo();
            check.due("whose it is, back to " + i, x.coupon(0, 0, 0), i % 3);
        }
        check.due("none", x.undo(), -1);
    }

    /** Twenty deeds of all sorts, so that each place of the fourteen is used by another sort than ahead of it. */
    private static final List<Consumer<Prorates>> DEEDS = List.of(
        x -> x.endorse(0, 0, 1), x -> x.fly(0, 0), Prorates::clear, x -> x.endorse(0, 2, 0), x -> x.endorse(1, 1, 2),
        x -> x.fly(1, 0), x -> x.fly(1, 1), Prorates::clear, x -> x.fly(2, 0), x -> x.refund(2),
        x -> x.endorse(0, 1, 2), x -> x.endorse(3, 0, 2), x -> x.fly(3, 0), x -> x.fly(0, 1), Prorates::clear,
        x -> x.fly(0, 2), x -> x.endorse(3, 1, 2), x -> x.fly(3, 1), Prorates::clear, x -> x.refund(4));

    private static Prorates afterDeeds(int n) {
        Prorates x = Check.told(TRIPS + "ticket v 30 miles a y b z c;ticket w 50 miles b x a y b;ticket xx 7 miles a z b;");
        for (int i = 0; i < n; i++) {
            DEEDS.get(i).accept(x);
        }
        return x;
    }

    private void undoAllSorts() {
        sentence("Terms 3", "the latest first, 14 at most (the eldest are forgotten)");
        for (int n = 0; n <= DEEDS.size(); n++) {
            check.due("none of the first " + n + " is refused", afterDeeds(n).count(9), Math.min(n, 14));
        }
        Prorates x = afterDeeds(DEEDS.size());
        for (int n = DEEDS.size() - 1; n >= DEEDS.size() - 14; n--) {
            check.due("undone down to " + n, x.undo(), n - (DEEDS.size() - 14));
            // asking for all is too much for one object, so that each is made anew
            Prorates y = afterDeeds(DEEDS.size());
            for (int i = DEEDS.size(); i > n; i--) {
                y.undo();
            }
            alikeBut("count(9)", "undone down to " + n, y, afterDeeds(n));
        }
        check.due("the eldest are forgotten", x.undo(), -1);
    }

    private void wouldEndorse() {
        sentence("Promise 31", "SHARE of a COUPON, WERE it ENDORSED to a CARRIER (its own, too)");
        Prorates x = trips();
        check.due("to another one", x.wouldEndorse(0, 2, 1), 240);
        check.due("to its own", x.wouldEndorse(0, 2, 2), 507);
        alike("as if", x, trips());
        sentence("Promise 31", "-2, -3, NONE as endorse()");
        refused("flown", DoneEdges::oneFlown, p -> p.wouldEndorse(0, 0, 1), -2);
        refused("flown, its own", DoneEdges::oneFlown, p -> p.wouldEndorse(0, 0, 0), -2);
        refused("refunded", DoneEdges::refunded, p -> p.wouldEndorse(0, 1, 0), -3);
        refused("refunded, its own", DoneEdges::refunded, p -> p.wouldEndorse(0, 1, 1), -3);
        for (int none : none(2)) {
            check.due("wouldEndorse(" + none + ", 0, 1)", x.wouldEndorse(none, 0, 1), -1);
        }
        for (int none : none(3)) {
            check.due("wouldEndorse(0, " + none + ", 1)", x.wouldEndorse(0, none, 1), -1);
            check.due("wouldEndorse(0, 0, " + none + ")", x.wouldEndorse(0, 0, none), -1);
        }
    }

    private void cheapest() {
        sentence("Promise 32", "The CARRIER to whom a COUPON would be ENDORSED so that its SHARE is least, its own, too, "
            + "of several the first (what 0), SHARE then (1)");
        Prorates x = trips();
        check.due("the last: y", x.cheapest(0, 2, 0), 1);
        check.due("for 240", x.cheapest(0, 2, 1), 240);
        check.due("y's: its own", x.cheapest(0, 1, 0), 1);
        check.due("for as much as it has", x.cheapest(0, 1, 1), 240);
        check.due("all alike: the first", x.cheapest(1, 1, 0), 0);
        check.due("for 45", x.cheapest(1, 1, 1), 45);
        alike("as if", x, trips());
        Prorates like = Check.told(ROAD + "proviso z any fixed 5;proviso y any fixed 5;" + TRIP);
        check.due("two alike: the first of them", like.cheapest(0, 0, 0), 1);
        Prorates last = Check.told(ROAD + "proviso z any fixed 5;" + TRIP);
        check.due("the last carrier", last.cheapest(0, 0, 0), 2);
        Prorates dear = Check.told(ROAD + "proviso x any least 700;proviso y any least 600;proviso z any least 650;"
            + "ticket t 1000 miles a x b x c x d;");
        // 333 1/3 of 700 three times; 300 and 317 of 600 and 650 with 700 twice; who has no least would have nothing
        check.due("y", dear.cheapest(0, 0, 0), 1);
        check.due("for 300", dear.cheapest(0, 0, 1), 300);
        Prorates only = Check.told("place a;place b;carrier x;leg a b 1;ticket t 5 miles a x b;");
        check.due("the only one there is", only.cheapest(0, 0, 0), 0);
        check.due("for all of it", only.cheapest(0, 0, 1), 5);
        sentence("Promise 32", "-2, -3, NONE as endorse() (no such what, too)");
        for (int what = 0; what < 2; what++) {
            int asked = what;
            refused("flown", DoneEdges::oneFlown, p -> p.cheapest(0, 0, asked), -2);
            refused("refunded", DoneEdges::refunded, p -> p.cheapest(0, 1, asked), -3);
            for (int none : none(2)) {
                check.due("cheapest(" + none + ", 0, " + what + ")", x.cheapest(none, 0, what), -1);
                check.due("cheapest(0, 0, " + none + ")", x.cheapest(0, 0, none), -1);
            }
            for (int none : none(3)) {
                check.due("cheapest(0, " + none + ", " + what + ")", x.cheapest(0, none, what), -1);
            }
        }
        check.due("of a new object", new Prorates().cheapest(0, 0, 0), -1);
    }

    private void asked() {
        sentence("Terms 3", "What is asked changes nothing");
        Prorates x = Check.told("place a;place b;carrier x;carrier y;leg a b 1;proviso y any most 30;ticket t 100 miles a x b y a;");
        x.fly(0, 0);
        List<String> first = Everything.of(x);
        check.due("asked twice", first.equals(Everything.of(x)) ? 1 : 0, 1);
        sentence("Terms 3", "WERE: as if");
        refused("straight", DoneEdges::oneFlown, p -> p.straight(0, 2), 500);
        refused("other", DoneEdges::oneFlown, p -> p.other(0, 2), 507);
        refused("without", DoneEdges::oneFlown, p -> p.without(0, 0, 2), 498);
        refused("wouldEndorse", DoneEdges::oneFlown, p -> p.wouldEndorse(0, 2, 1), 418);
        refused("cheapest", DoneEdges::oneFlown, p -> p.cheapest(0, 1, 0), 1);
        refused("matters", DoneEdges::oneFlown, p -> p.matters(0), 1);
        refused("harmed", DoneEdges::oneFlown, p -> p.harmed(0, 0), 1);
        refused("most", DoneEdges::oneFlown, p -> p.most(0, 1), -10);
        refused("payment", DoneEdges::allFlown, p -> p.payment(0, 2), 507);
    }

    private void severalAnswers() {
        sentence("Terms 3", "Of several answers that hold NONE goes first, then -2, -3 and so on");
        refused("no such coupon of a refunded ticket", DoneEdges::refunded, p -> p.fly(0, 3), -1);
        refused("flown and refunded: fly", DoneEdges::refunded, p -> p.fly(0, 0), -2);
        refused("refunded, and one ahead isn't flown", DoneEdges::refunded, p -> p.fly(0, 2), -3);
        refused("a flown one to no carrier", DoneEdges::oneFlown, p -> p.endorse(0, 0, 3), -1);
        refused("one of a refunded ticket to no carrier", DoneEdges::refunded, p -> p.endorse(0, 1, -1), -1);
        refused("flown and refunded and that one's", DoneEdges::refunded, p -> p.endorse(0, 0, 0), -2);
        refused("refunded and that one's", DoneEdges::refunded, p -> p.endorse(0, 1, 1), -3);
        refused("flown and refunded: wouldEndorse", DoneEdges::refunded, p -> p.wouldEndorse(0, 0, 1), -2);
        refused("a flown one to no carrier, as if", DoneEdges::oneFlown, p -> p.wouldEndorse(0, 0, 3), -1);
        refused("flown and refunded: cheapest", DoneEdges::refunded, p -> p.cheapest(0, 0, 0), -2);
        refused("flown, and no such what", DoneEdges::oneFlown, p -> p.cheapest(0, 0, 2), -1);
        refused("refunded, and no such what", DoneEdges::refunded, p -> p.cheapest(0, 1, -1), -1);
        refused("not so many, and no such what", DoneEdges::trips, p -> p.payment(0, 3), -1);
        refused("no proviso that harms, and no such what", DoneEdges::trips, p -> p.harmed(0, 4), -1);
    }

    private void lastCall() {
        sentence("What it is", "An object is used for at most 512 calls after it has been made");
        Prorates x = new Prorates();
        int calls = 0;
        for (; calls < 60; calls++) {
            check.due("feed", x.feed(0x20202020, 0x20202020, 0x20202020, 0x20202020, 0x20202020), 20 * calls + 20);
        }
        x.text(0);
        calls++;
        Check.feed(x, TRIPS);
        calls += (TRIPS.length() + 19) / 20;
        check.due("a text", x.text(TRIPS.length()), 13);
        calls++;
        for (; calls < 511; calls++) {
            check.due("call " + calls, x.endorse(0, 0, calls % 2 + 1) >= 0 ? 1 : 0, 1);
        }
        check.due("the 512th", x.undo(), 13);
        sentence("The public face", "public static final int NONE = -1;");
        check.due("NONE", Prorates.NONE, -1);
    }
}
