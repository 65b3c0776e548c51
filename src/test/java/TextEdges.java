/** Edges of the tape and of what a text may be: promises 1 to 4 and 39, and the grammar of the terms. */
final class TextEdges extends EdgePart {
    private static final String TWO = "place a;place b;carrier x;carrier y;";
    private static final String LEG = TWO + "leg a b 1;";
    /** Twelve places a to l, without a leg. */
    private static final String PLACES = many(12, "place ", 'a', ";");

    TextEdges(Check check, Doc doc) {
        super(check, doc);
    }

    @Override
    void run() {
        newObject();
        feed();
        text();
        textThrice();
        textRefused();
        fault();
        count();
        lines();
        words();
        numbersAndBlanks();
        names();
        legs();
        bands();
        provisos();
        bases();
        rate();
        tickets();
        coupons();
        allFull();
    }

    /** So many lines (or other pieces), each with a letter of its own in the middle. */
    private static String many(int n, String head, char first, String tail) {
        StringBuilder text = new StringBuilder();
        for (int i = 0; i < n; i++) {
            text.append(head).append((char) (first + i)).append(tail);
        }
        return text.toString();
    }

    /** So many lines that tell something of pairs of places, no pair twice. */
    private static String pairs(int n, String head, String tail) {
        StringBuilder text = new StringBuilder();
        int told = 0;
        for (char a = 'a'; a <= 'l'; a++) {
            for (char b = (char) (a + 1); b <= 'l' && told < n; b++, told++) {
                text.append(head).append(a).append(' ').append(b).append(tail);
            }
        }
        return text.toString();
    }

    private void newObject() {
        sentence("Promise 1", "Nothing told; rate 10, an empty TAPE");
        Prorates x = new Prorates();
        for (int what = 0; what <= 10; what++) {
            check.due("count(" + what + ")", x.count(what), what == 7 ? 10 : 0);
        }
        check.due("no byte on the tape", x.text(1), -2);
        check.due("no place", x.miles(0, 0), -1);
        check.due("no carrier", x.net(0), -1000000000);
        check.due("no proviso", Check.answer(() -> x.proviso(0, 0)), Check.OUT_OF_BOUNDS);
        check.due("no ticket", Check.answer(() -> x.ticket(0, 0)), Check.OUT_OF_BOUNDS);
        check.due("nothing done", x.undo(), -1);
        check.due("no bills", x.clear(), -2);
        check.due("no fault", x.fault(0), 0);
        check.due("no fault's place", x.fault(1), -1);
    }

    private void feed() {
        sentence("Promise 2", "Twenty bytes come behind the TAPE, four of each number, the highest first: how many it has");
        Prorates x = new Prorates();
        check.due("the first twenty", x.feed(0x706C6163, 0x6520613B, 0x0A207261, 0x74652037, 0x3B706C61), 20);
        check.due("twenty behind them", x.feed(0x63652062, 0x63646566, 0x3B202020, 0x20202020, 0x202020FF), 40);
        check.due("all but the last", x.text(39), 3);
        check.due("the rate", x.count(7), 7);
        int[] numbers = {0x20202020, 0x20202020, 0x20202020, 0x20202020, 0x20202020};
        for (int i = 0; i < 20; i++) {
            int[] fed = numbers.clone();
            fed[i / 4] = 0x20202020 ^ 0x80 << 24 - i % 4 * 8;
            x.feed(fed[0], fed[1], fed[2], fed[3], fed[4]);
            check.due("a byte above 127 as byte " + i, x.text(20), -1);
            check.due("its place", x.fault(1), i);
        }
        sentence("Promise 2", "NONE, and none come, if it would have more than 1200");
        Prorates y = new Prorates();
        for (int i = 1; i < 60; i++) {
            check.due("feed " + i, y.feed(0x20202020, 0x20202020, 0x20202020, 0x20202020, 0x20202020), 20 * i);
        }
        check.due("up to 1200", y.feed(0x20202020, 0x20202020, 0x20202020, 0x706C6163, 0x6520613B), 1200);
        check.due("one more", y.feed(0x706C6163, 0x6520623B, 0x20202020, 0x20202020, 0x20202020), -1);
        check.due("and again", y.feed(0x706C6163, 0x6520623B, 0x20202020, 0x20202020, 0x20202020), -1);
        check.due("none have come", y.count(10), 1200);
        check.due("not so many", y.text(1201), -2);
        check.due("the last byte counts", y.text(1200), 1);
        check.due("there is room again", y.feed(0, 0, 0, 0, 0), 20);
    }

    /** What comes behind the first n bytes is no part of the text, not even of its last word or number. */
    private void cut(int n, String fed, int kind, int place) {
        Prorates x = new Prorates();
        Check.feed(x, fed);
        check.due(n + " bytes of " + fed.strip(), x.text(n), -1);
        check.due("the fault of " + n + " bytes of " + fed.strip(), x.fault(0), kind);
        check.due("its place", x.fault(1), place);
    }

    private static final String DONE = LEG + "proviso y any most 30;ticket t 100 miles a x b y a x b;ticket u 50 miles a y b x a;";

    private static Prorates done() {
        Prorates x = Check.told(DONE);
        x.fly(0, 0);
        x.fly(0, 1);
        x.clear();
        x.endorse(0, 2, 1);
        return x;
    }

    private void text() {
        sentence("Promise 3", "The TAPE's first n bytes (it is empty then) are the TEXT");
        Prorates x = new Prorates();
        Check.feed(x, "place a;place b;     place c;");
        check.due("the first n bytes", x.text(16), 2);
        check.due("it is empty then", x.count(10), 0);
        check.due("the rest is gone, too", x.text(1), -2);
        cut(12, "place abcdefg;", 1, 12);
        cut(7, "rate 999;", 1, 7);
        cut(4, "rate9;", 1, 4);
        cut(3, "rate 9;", 1, 0);
        String full = " ".repeat(1192);
        cut(1199, full + "place a;", 1, 1199);
        cut(1200, full + " place a", 1, 1200);
        cut(1200, full + "rate 123", 2, 1197);
        check.due("a text of no byte of an empty tape", x.text(0), 0);
        Check.feed(x, "place a;");
        check.due("a text of no byte", x.text(0), 0);
        check.due("the tape is empty", x.count(10), 0);
        sentence("Promise 3", "(nothing FLOWN, no BILLS, nothing CLEARED, nothing to undo)");
        Prorates y = done();
        y.undo();
        y.undo();
        Check.tell(y, DONE);
        alike("told anew", y, Check.told(DONE));
        check.due("no bills", y.money(4), 0);
        check.due("nothing to undo", y.undo(), -1);
        Prorates all = done();
        all.fly(0, 2);
        all.refund(1);
        Check.tell(all, DONE);
        alike("flown, billed, refunded and cleared, then told anew", all, Check.told(DONE));
        check.due("an empty text", done().text(0), 0);
        Prorates z = done();
        z.text(0);
        alike("behind an empty text", z, new Prorates());
        sentence("Promise 3", "how many LINES");
        check.good(0, "");
        check.good(1, "rate 5;");
        check.good(2, "rate 5;place a;");
    }

    /** What an older text has told is gone, whether the latest ones had faults or not. */
    private void textThrice() {
        sentence("Promise 3", "The TAPE's first n bytes (it is empty then) are the TEXT");
        String much = "place a;place b;place c;carrier x;carrier y;carrier z;leg a b 3;leg b c 1;band 1 50;band 2 60;rate 9;"
            + "proviso x any fixed 1;proviso y any fixed 2;base x a b 8;base y a c 9;"
            + "ticket s 30 base a x b y c;ticket t 90 miles a y b x c;";
        String less = "place c;place b;place a;carrier z;carrier x;leg b a 7;ticket u 70 miles a z b;";
        Prorates x = Check.told(much);
        check.due("the same again", Check.tell(x, much), 17);
        check.due("less", Check.tell(x, less), 7);
        alike("less behind more", x, Check.told(less));
        Prorates y = Check.told(much);
        check.due("a fault at its end", Check.tell(y, much + "!"), -1);
        check.due("then less", Check.tell(y, less), 7);
        alike("less behind more with a fault", y, Check.told(less));
        Prorates z = Check.told(less);
        check.due("much behind less", Check.tell(z, much), 17);
        check.due("nothing", z.text(0), 0);
        check.due("then less again", Check.tell(z, less), 7);
        alike("less behind nothing", z, Check.told(less));
    }

    private void textRefused() {
        sentence("Promise 3", "NONE with a FAULT, all else stays");
        Prorates x = done();
        check.due("a fault behind whole lines", Check.tell(x, "place q;carrier w;rate 77;band 1 1;rate"), -1);
        alike("all else", x, done());
        check.due("but the tape is empty", x.count(10), 0);
        check.due("the names of a text with a fault are not told", Check.tell(x, "place q;carrier w;"), 2);
        sentence("Promise 3", "-2, and the TAPE stays: there are not so many, n is below 0");
        Prorates y = new Prorates();
        check.due("one of an empty tape", y.text(1), -2);
        Check.feed(y, "place a;place b;");
        for (int n : new int[] {21, 40, 1200, Integer.MAX_VALUE, -1, -20, Integer.MIN_VALUE}) {
            check.due("text(" + n + ")", y.text(n), -2);
            check.due("the tape behind text(" + n + ")", y.count(10), 20);
        }
        check.due("all of it", y.text(20), 2);
    }

    private void fault() {
        sentence("Promise 4", "Of the latest text() that was not -2");
        Prorates x = new Prorates();
        Check.tell(x, "rate 5;rate 5;");
        x.text(1);
        x.text(-1);
        check.due("the one ahead of -2", x.fault(0), 3);
        check.due("its place", x.fault(1), 7);
        Check.tell(x, "rate 0;");
        check.due("the latest of two", x.fault(0), 2);
        check.due("its place, too", x.fault(1), 5);
        sentence("Promise 4", "what 0: its FAULT (0 without, and ahead of any)");
        check.due("ahead of any", new Prorates().fault(0), 0);
        Check.tell(x, "rate 5;");
        check.due("without", x.fault(0), 0);
        sentence("Promise 4", "1: its place (NONE without)");
        check.due("without", x.fault(1), -1);
        check.due("ahead of any", new Prorates().fault(1), -1);
        Check.tell(x, "!");
        check.due("at the first byte", x.fault(1), 0);
        x.text(0);
        check.due("an empty text has none", x.fault(1), -1);
        sentence("Promise 4", "NONE for another what");
        Check.tell(x, "!");
        for (int what : none(2)) {
            check.due("fault(" + what + ")", x.fault(what), -1);
        }
    }

    private void count() {
        sentence("Promise 39", "0 LINES, 1 PLACES, 2 CARRIERS, 3 LEGS, 4 bands, 5 PROVISOS, 6 base amounts, 7 rate, 8 TICKETS, "
            + "9 what can be undone, 10 bytes of the TAPE");
        Prorates x = Check.told("place a;place b;place c;carrier x;carrier y;leg a b 1;band 1 1;band 2 1;band 3 1;rate 42;"
            + "proviso x any fixed 1;base x a b 1;base x a c 1;base y a b 1;base y a c 1;ticket t 9 miles a x b;");
        x.endorse(0, 0, 1);
        x.feed(0, 0, 0, 0, 0);
        int[] want = {16, 3, 2, 1, 3, 1, 4, 42, 1, 1, 20};
        for (int what = 0; what < want.length; what++) {
            check.due("count(" + what + ")", x.count(what), want[what]);
        }
        x.undo();
        check.due("nothing to undo", x.count(9), 0);
        x.text(0);
        check.due("the rate of an empty text", x.count(7), 10);
        check.due("the tape is empty", x.count(10), 0);
        sentence("Promise 39", "NONE for another what");
        for (int what : none(11)) {
            check.due("count(" + what + ")", x.count(what), -1);
        }
    }

    private void lines() {
        sentence("Terms 1", "A TEXT: { LINE ';' }");
        check.good(0, "");
        check.good(0, " \n ");
        check.good(1, "place a;");
        check.fault(1, "|;");
        check.fault(1, "place a;|;");
        check.fault(1, "place a |place b;");
        check.fault(1, "|a;");
        check.fault(1, "|1;");
        sentence("Terms 1", "LINE: place W | carrier W | leg W W N | band N N | proviso W PAIR KIND N [ with W ] | base W W W N | rate N "
            + "| ticket W N HOW W { W W }");
        String[] all = {"place c", "carrier z", "leg a b 1", "band 5 1", "proviso x any fixed 1", "proviso x a b part 1 with y",
            "base x a b 1", "rate 5", "ticket t 5 miles a x b", "ticket t 5 base a x b y a"};
        for (String line : all) {
            String told = line.startsWith("leg") ? TWO : LEG;
            int lines = told.split(";").length + 1;
            check.good(lines, told + line + ";");
            check.fault(1, told + line + " |!;");
            check.fault(1, told + line + " |miles;");
        }
        sentence("Terms 1", "the length, if more must come");
        for (String line : all) {
            String told = line.startsWith("leg") ? TWO : LEG;
            for (int i = line.indexOf(' '); i > 0; i = line.indexOf(' ', i + 1)) {
                check.fault(1, told + line.substring(0, i) + "|");
                check.fault(1, told + line.substring(0, i) + " \n |");
            }
            check.fault(1, told + line + "|");
        }
        for (String line : new String[] {"leg", "band", "proviso", "base", "rate", "ticket", "carrier"}) {
            check.fault(1, line + "|");
        }
        check.fault(1, LEG + "proviso x any fixed 1 with|");
        sentence("Terms 1", "PAIR: any | W W");
        check.fault(1, LEG + "proviso x |fixed 1;");
        check.fault(1, LEG + "proviso x a |fixed 1;");
        check.fault(1, LEG + "proviso x any |any fixed 1;");
        sentence("Terms 1", "KIND: fixed | part | least | most");
        check.good(9, LEG + "proviso x any fixed 1;proviso x any part 1;proviso x any least 1;proviso x any most 1;");
        check.fault(1, LEG + "proviso x any |5;");
        check.fault(1, LEG + "proviso x any |miles 5;");
        sentence("Terms 1", "HOW: miles | base");
        check.good(7, LEG + "ticket t 5 miles a x b;ticket u 5 base a x b;");
        check.fault(1, LEG + "ticket t 5 |rate a x b;");
        check.fault(1, LEG + "ticket t 5 |a x b;");
    }

    private void words() {
        sentence("Terms 1", "W: 1 .. 6 letters a .. z");
        check.good(2, "place a;place z;");
        check.good(1, "place azazaz;");
        check.fault(1, "place |`;");
        check.fault(1, "place |{;");
        check.fault(1, "place |A;");
        check.fault(1, "place |Z;");
        check.fault(1, "place a|_;");
        check.fault(1, "place |;");
        sentence("Terms 1", "a TOKEN that is none (a word of more letters, too, but carrier, proviso, at its first)");
        check.fault(1, "place |abcdefg;");
        check.fault(1, "place |abcdefgh;");
        check.fault(1, "place |abcdefghijklmnopqrstuvwxyzabcdefghijklmnopqrstuvwxyz;");
        check.fault(1, "place abcdef;place |abcdefg;");
        check.good(2, "carrier x;proviso x any fixed 1;");
        check.fault(1, "|carriex x;");
        check.fault(1, "|carriers x;");
        check.fault(1, "carrier x;|proviss x any fixed 1;");
        check.fault(1, "carrier x;|provisos x any fixed 1;");
        check.fault(1, "place |carrierprovisocarrierproviso;");
        check.fault(1, "place a;|\u0000");
        check.fault(1, "place a;|\u00ff");
        check.fault(1, "rate |-1;");
        check.fault(1, "rate 1|.5;");
        check.fault(1, "place a|,");
        check.fault(1, "place a|:");
        sentence("Terms 1", "none of these words (place, carrier, leg, band, proviso, any, fixed, part, least, most, with, base, rate, "
            + "ticket, miles)");
        String kept = "place carrier leg band proviso any fixed part least most with base rate ticket miles";
        for (String word : kept.split(" ")) {
            check.fault(1, "place |" + word + ";");
            check.fault(1, "carrier |" + word + ";");
            check.fault(1, LEG + "ticket |" + word + " 5 miles a x b;");
            check.fault(1, LEG + "leg |" + word + " b 1;");
            check.good(1, "place " + word.substring(1) + ";");
        }
        check.good(3, "place places;place rates;place anyx;");
    }

    private void numbersAndBlanks() {
        sentence("Terms 1", "N: digits");
        check.good(1, "rate 0099;");
        check.good(1, "rate 0000000000000000000000000000000000000000000000000000000000000001;");
        check.good(2, "band 0001 0000000000000999;rate 10;");
        check.fault(1, "rate |/;");
        check.fault(1, "rate |:;");
        check.fault(1, "rate 1|x;");
        check.fault(1, "rate 1 |1;");
        sentence("Terms 1", "a number beyond what is said (at it)");
        check.fault(2, "rate |100;");
        check.fault(2, "rate |2147483648;");
        check.fault(2, "rate |4294967297;");
        check.fault(2, "rate |4294967306;");
        check.fault(2, "rate |18446744073709551617;");
        check.fault(2, "rate |1000000000000000000000000000000000000000000000000000000000005;");
        check.fault(2, "rate |00;");
        sentence("Terms 1", "Blanks 10, 32");
        check.good(1, "\n\n place\n\n \na \n;\n ");
        check.good(2, "band1 1;place a;");
        for (char sign : new char[] {0, 9, 11, 13, 31, 33, 127, 138, 160, 255}) {
            check.fault(1, "place|" + sign + "a;");
            check.fault(1, "place a|" + sign + ";");
            check.fault(1, "place a;|" + sign);
        }
    }

    private void names() {
        sentence("Terms 1", "place, at most 12, carrier, at most 6: NAMES");
        check.due("twelve places", check.good(12, PLACES).count(1), 12);
        check.due("six carriers", check.good(6, many(6, "carrier ", 'u', ";")).count(2), 6);
        sentence("Terms 1", "a 13th place, 7th carrier, 25th leg, 6th band, 17th proviso, base, ninth ticket (at the word)");
        check.fault(2, PLACES + "|place m;");
        check.fault(2, PLACES + "|place a;");
        check.fault(2, PLACES + "|place");
        check.fault(2, many(6, "carrier ", 'a', ";") + "|carrier z;");
        check.fault(2, many(6, "carrier ", 'a', ";") + "|carrier !");
        check.good(18, PLACES + many(6, "carrier ", 'u', ";"));
        sentence("Terms 1", "NAMES of all three sorts (TICKETS, too) are unlike");
        String told = LEG + "ticket t 5 miles a x b;";
        for (String name : new String[] {"a", "x", "t"}) {
            check.fault(3, told + "place |" + name + ";");
            check.fault(3, told + "carrier |" + name + ";");
            check.fault(3, told + "ticket |" + name + " 5 miles a x b;");
        }
        check.good(7, told + "place aa;");
        check.good(2, "place abcdef;place abcdeg;");
        check.fault(3, "place abcdef;carrier |abcdef;");
        sentence("Terms 1", "told already: a NAME, (at its second PLACE) a leg, a base; rate (at the word)");
        check.fault(3, "place a;place |a !");
        sentence("Terms 1", "a W that isn't told");
        check.fault(1, told + "leg |q b 1;");
        check.fault(1, told + "leg a |q 1;");
        check.fault(1, told + "proviso |q any fixed 1;");
        check.fault(1, told + "proviso x |q b fixed 1;");
        check.fault(1, told + "proviso x a |q fixed 1;");
        check.fault(1, told + "proviso x any fixed 1 with |q;");
        check.fault(1, told + "base |q a b 1;");
        check.fault(1, told + "base x |q b 1;");
        check.fault(1, told + "base x a |q 1;");
        check.fault(1, told + "ticket u 5 miles |q x b;");
        check.fault(1, told + "ticket u 5 miles a |q b;");
        check.fault(1, told + "ticket u 5 miles a x |q;");
        // told, but as something else
        check.fault(1, told + "leg |x b 1;");
        check.fault(1, told + "leg |t b 1;");
        check.fault(1, told + "base |a a b 1;");
        check.fault(1, told + "base x a |y 1;");
        check.fault(1, told + "ticket u 5 miles a |t b;");
        check.fault(1, told + "ticket u 5 miles |u x b;");
        check.fault(1, told + "ticket u 5 miles |x b;");
        check.fault(1, told + "ticket u 5 miles a x |y b;");
        check.fault(1, told + "proviso |a a b fixed 1;");
        check.fault(1, told + "proviso |a b fixed 1;");
        check.fault(1, told + "proviso x |x fixed 1;");
        check.fault(1, told + "proviso x any fixed 1 with |a;");
        check.fault(1, told + "base x |y b 1;");
        sentence("Terms 1", "PLACES, CARRIERS, PROVISOS, TICKETS, COUPONS are numbered from 0 on");
        Prorates x = Check.told(LEG + "proviso x any fixed 3;proviso y any fixed 4;ticket t 9 miles b y a x b;ticket u 8 miles a x b;");
        check.due("the first place", x.coupon(1, 0, 1), 0);
        check.due("the second carrier", x.ticket(0, 4), 1);
        check.due("the first proviso", x.proviso(0, 4), 3);
        check.due("the second proviso", x.proviso(1, 4), 4);
        check.due("the second ticket", x.ticket(1, 0), 8);
        check.due("the first coupon", x.coupon(0, 0, 0), 1);
    }

    private void legs() {
        sentence("Terms 1", "leg, at most 24: two PLACES told ahead, unlike, each pair once (either way), MILES 1 .. 9999");
        check.due("24 legs", check.good(36, PLACES + pairs(24, "leg ", " 1;")).count(3), 24);
        check.fault(1, "place a;leg a |b 1;place b;");
        check.fault(1, "leg |a b 1;place a;place b;");
        check.good(5, LEG);
        check.good(5, TWO + "leg a b 9999;");
        check.fault(2, TWO + "leg a b |0;");
        check.fault(2, TWO + "leg a b |10000;");
        sentence("Terms 1", "25th leg");
        check.fault(2, PLACES + pairs(24, "leg ", " 1;") + "|leg k l 1;");
        check.fault(2, PLACES + pairs(24, "leg ", " 1;") + "|leg a b 1;");
        sentence("Terms 1", "a PLACE and itself");
        check.fault(1, TWO + "leg a |a 1;");
        check.fault(1, LEG + "leg b |b 0;");
        check.fault(1, TWO + "proviso x b |b fixed 1;");
        check.fault(1, TWO + "base x a |a 1;");
        check.fault(1, LEG + "ticket t 5 miles a x |a;");
        check.fault(1, LEG + "ticket t 5 miles a x b y |b;");
        sentence("Terms 1", "(at its second PLACE) a leg");
        check.fault(3, LEG + "leg a |b 1;");
        check.fault(3, LEG + "leg b |a 1;");
        check.fault(3, LEG + "leg b |a 0;");
        check.fault(3, LEG + "leg b |a");
    }

    private void bands() {
        sentence("Terms 1", "band, at most 5: up to so many MILES (1 .. 9999, more than that of the one ahead) "
            + "the WEIGHT (1 .. 999, in hundredths)");
        check.due("five bands", check.good(5, many(5, "band ", '1', " 1;")).count(4), 5);
        check.good(2, "band 1 1;band 9999 999;");
        check.good(2, "band 9998 1;band 9999 1;");
        check.fault(2, "band |0 1;");
        check.fault(2, "band |10000 1;");
        check.fault(2, "band 1 |0;");
        check.fault(2, "band 1 |1000;");
        sentence("Terms 1", "6th band");
        check.fault(2, many(5, "band ", '1', " 1;") + "|band 6 1;");
        check.fault(2, many(5, "band ", '1', " 1;") + "|band 1 1;");
        sentence("Terms 1", "a band not more than that ahead");
        check.fault(2, "band 7 1;band |7 1;");
        check.fault(2, "band 7 1;band |6 1;");
        check.good(2, "band 7 1;band 8 1;");
        check.fault(2, "band 3 1;band 7 1;band |5 1;");
        check.fault(2, "band 9999 1;band |9999 1;");
        check.fault(2, "band 9999 1;band |10000 1;");
    }

    private void provisos() {
        sentence("Terms 1", "proviso, at most 16: a CARRIER, two PLACES (unlike; either way) or any, KIND, "
            + "an amount 1 .. 999999 (part: 1 .. 100), perhaps with another CARRIER");
        check.due("sixteen", check.good(20, TWO + "proviso x any fixed 1;".repeat(16)).count(5), 16);
        check.good(6, TWO + "proviso x a b fixed 1;proviso x b a fixed 999999;");
        check.good(8, TWO + "proviso x any least 1;proviso x any least 999999;proviso x any most 1;proviso x any most 999999;");
        check.good(6, TWO + "proviso x any part 1;proviso x any part 100 with y;");
        for (String kind : new String[] {"fixed", "least", "most"}) {
            check.fault(2, TWO + "proviso x any " + kind + " |0;");
            check.fault(2, TWO + "proviso x any " + kind + " |1000000;");
        }
        check.fault(2, TWO + "proviso x any part |0;");
        check.fault(2, TWO + "proviso x any part |101;");
        sentence("Terms 1", "17th proviso");
        check.fault(2, TWO + "proviso x any fixed 1;".repeat(16) + "|proviso x any fixed 1;");
        sentence("Terms 1", "a CARRIER with itself");
        check.fault(1, TWO + "proviso x any fixed 1 with |x;");
        check.fault(1, TWO + "proviso y a b part 1 with |y;");
    }

    private void bases() {
        sentence("Terms 1", "base, at most 16: a CARRIER, two PLACES (unlike, either way; of a CARRIER each pair once), 1 .. 999999");
        String sixteen = PLACES + "carrier x;carrier y;" + pairs(16, "base x ", " 1;");
        check.due("sixteen", check.good(30, sixteen).count(6), 16);
        check.good(6, TWO + "base x a b 1;base y b a 999999;");
        check.fault(2, TWO + "base x a b |0;");
        check.fault(2, TWO + "base x a b |1000000;");
        sentence("Terms 1", "17th proviso, base");
        check.fault(2, sixteen + "|base y k l 1;");
        check.fault(2, sixteen + "|base x a b 1;");
        sentence("Terms 1", "(at its second PLACE) a leg, a base");
        check.fault(3, TWO + "base x a b 1;base x a |b 1;");
        check.fault(3, TWO + "base x a b 1;base x b |a 1;");
        check.fault(3, TWO + "base x a b 1;base x b |a 0;");
        check.fault(3, TWO + "base y a b 1;base x a b 1;base y b |a");
    }

    private void rate() {
        sentence("Terms 1", "rate: 1 .. 99 (10), once");
        check.due("the least", check.good(1, "rate 1;").count(7), 1);
        check.due("the most", check.good(1, "rate 99;").count(7), 99);
        check.due("not told", check.good(0, "").count(7), 10);
        check.fault(2, "rate |0;");
        check.fault(2, "rate |100;");
        sentence("Terms 1", "rate (at the word)");
        check.fault(3, "rate 5;|rate 5;");
        check.fault(3, "rate 10;|rate 0;");
        check.fault(3, "rate 10;|rate");
        check.fault(3, "rate 10;place a;|rate !");
    }

    private void tickets() {
        sentence("Terms 1", "ticket, at most 8: a NAME, FARE 1 .. 9999999 (cents), HOW, the first PLACE, then 1 .. 8 COUPONS");
        String eight = LEG + many(8, "ticket ", 'm', " 1 miles a x b;");
        check.due("eight tickets", check.good(13, eight).count(8), 8);
        check.due("the least fare", check.good(6, LEG + "ticket t 1 miles a x b;").ticket(0, 0), 1);
        check.due("the greatest fare", check.good(6, LEG + "ticket t 9999999 miles a x b;").ticket(0, 0), 9999999);
        check.fault(2, LEG + "ticket t |0 miles a x b;");
        check.fault(2, LEG + "ticket t |10000000 miles a x b;");
        check.due("one coupon", check.good(6, LEG + "ticket t 1 miles a x b;").ticket(0, 2), 1);
        check.due("eight coupons", check.good(6, LEG + "ticket t 1 miles a" + " x b y a".repeat(4) + ";").ticket(0, 2), 8);
        check.fault(1, LEG + "ticket t 1 miles a|;");
        sentence("Terms 1", "ninth ticket");
        check.fault(2, eight + "|ticket u 1 miles a x b;");
        check.fault(2, eight + "|ticket m 1 miles a x b;");
        sentence("Terms 1", "a ninth COUPON (at its CARRIER)");
        String nine = LEG + "ticket t 1 miles a" + " x b y a".repeat(4);
        check.fault(2, nine + " |x b;");
        check.fault(2, nine + " |y a;");
        check.fault(2, nine + " |x;");
        check.fault(2, nine + " |x");
        sentence("Terms 1", "the first along the text (of one place the least), with its place");
        check.fault(1, nine + " |q b;");
        check.fault(1, nine + " |b b;");
        check.fault(1, nine + "|");
        check.fault(3, "place a;place |a;rate 0;!");
        check.fault(2, "rate |0;place a;place a;!");
        check.fault(1, "rate |x;rate 5;rate 5;");
        check.fault(2, "band |0 0;");
        check.fault(2, PLACES + "|place a;place");
        check.fault(3, LEG + "leg b |a 0;");
        check.fault(1, LEG + "leg b |b 0;");
    }

    private void coupons() {
        sentence("Terms 1", "a CARRIER, the PLACE to which it flies (another one than it is at, "
            + "to which there is a WAY by LEGS told ahead)");
        String three = "place a;place b;place c;carrier x;leg a b 1;";
        check.good(6, three + "ticket t 5 miles a x b;");
        check.good(7, three + "leg b c 1;ticket t 5 miles a x c;");
        check.fault(1, three + "ticket t 5 miles a x b x |b;");
        sentence("Terms 1", "one without a WAY");
        check.fault(1, three + "ticket t 5 miles a x |c;");
        check.fault(1, three + "ticket t 5 miles c x |a;");
        check.fault(1, three + "ticket t 5 miles a x b x |c;");
        check.fault(1, three + "ticket t 5 miles a x |c;leg b c 1;");
        check.fault(1, "place a;place b;carrier x;ticket t 5 miles a x |b;leg a b 1;");
        sentence("Terms 1", "or can't stand there");
        check.fault(1, "|any;");
        check.fault(1, "|with;");
        check.fault(1, "|miles;");
        check.fault(1, "place |5;");
        check.fault(1, three + "leg |5 b 1;");
        check.fault(1, "place a;place b;place c;leg a b |c;");
        check.fault(1, three + "leg a |;");
        check.fault(1, "band |a 1;");
        check.fault(1, "band 1 |;");
        check.fault(1, three + "proviso |any fixed 1;");
        check.fault(1, three + "proviso x |5 b fixed 1;");
        check.fault(1, three + "proviso x a |5 fixed 1;");
        check.fault(1, three + "base |5 a b 1;");
        check.fault(1, three + "base x |5 b 1;");
        check.fault(1, three + "base x a |5;");
        check.fault(1, three + "base x a b |;");
        check.fault(1, "place a;place b;leg a |5;");
        check.fault(1, three + "ticket t 5 miles |5 x b;");
        check.fault(1, three + "ticket t 5 miles a |5 b;");
        check.fault(1, three + "ticket t 5 miles a x |5;");
        check.fault(1, three + "ticket t 5 miles a x |;");
        check.fault(1, three + "proviso x any fixed 1 with |5;");
        check.fault(1, three + "proviso x any fixed 1 |x;");
        check.fault(1, three + "proviso x any fixed 1 with |;");
        check.fault(1, three + "ticket |5 miles a x b;");
        check.fault(1, three + "ticket t |miles a x b;");
        check.fault(1, three + "ticket t 5 miles a x b |a;");
        check.fault(1, three + "ticket t 5 miles a x b |5;");
    }

    /** As much of everything as there can be, in one text. */
    private void allFull() {
        sentence("Promise 3", "how many LINES");
        String told = PLACES + many(6, "carrier ", 'u', ";") + pairs(24, "leg ", "9;") + many(5, "band", '1', " 1;")
            + "proviso u any part9;".repeat(16) + pairs(16, "base z ", "9;") + "rate9;" + many(8, "ticket ", 'm', " 9miles a u b;");
        Prorates x = check.good(88, told);
        int[] most = {88, 12, 6, 24, 5, 16, 16, 9, 8};
        for (int what = 0; what < most.length; what++) {
            check.due("count(" + what + ")", x.count(what), most[what]);
        }
    }
}
