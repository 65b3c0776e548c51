/** Promises 1 to 4, and 39: the tape, the text and its faults. */
public final class TextTest {
    private static final Check check = new Check("TextTest");

    public static void main(String[] args) {
        newObject();
        feed();
        text();
        words();
        numbers();
        placesAndCarriers();
        legs();
        bands();
        provisos();
        bases();
        rate();
        tickets();
        tooMany();
        faultsOfLatestText();
        counts();
        check.end();
    }

    private static void fault(int kind, String marked) {
        check.fault(kind, marked);
    }

    private static void good(int lines, String text) {
        check.good(lines, text);
    }

    private static void newObject() {
        Prorates x = new Prorates();
        for (int what = 0; what <= 10; what++) {
            check.due("count(" + what + ") of a new object", x.count(what), what == 7 ? 10 : 0);
        }
        check.due("NONE", Prorates.NONE, -1);
        check.due("a new object's fault", x.fault(0), 0);
        check.due("a new object's fault's place", x.fault(1), -1);
        check.due("a new object's undo()", x.undo(), -1);
        check.due("a new object's net(0)", x.net(0), -1000000000);
        check.due("a new object's text(1)", x.text(1), -2);
        check.due("a new object's text(0)", x.text(0), 0);
    }

    private static void feed() {
        Prorates x = new Prorates();
        for (int i = 1; i <= 60; i++) {
            check.due("feed no. " + i, x.feed(0, -1, Integer.MIN_VALUE, Integer.MAX_VALUE, 0x20202020), 20 * i);
        }
        check.due("feed no. 61", x.feed(0, 0, 0, 0, 0), -1);
        check.due("count(10) of a full tape", x.count(10), 1200);
        check.due("text(1201)", x.text(1201), -2);
        check.due("count(10) behind it", x.count(10), 1200);
        check.due("text(1200)", x.text(1200), -1);
        check.due("a byte 0", x.fault(1), 0);
        check.due("count(10) of an empty tape", x.count(10), 0);
        x.feed(0x706C6163, 0x6520613B, 0x20200A0A, 0x20202020, 0x202020FF);
        check.due("the highest byte first", x.text(19), 1);
        check.due("the place", x.count(1), 1);
        x.feed(0x20202020, 0x20202020, 0x20202020, 0x20202020, 0x202020FF);
        check.due("a byte 255", x.text(20), -1);
        check.due("its place", x.fault(1), 19);
    }

    private static void text() {
        Prorates x = new Prorates();
        Check.feed(x, "place a;place b;place c;");
        check.due("text(-1)", x.text(-1), -2);
        check.due("text(41)", x.text(41), -2);
        check.due("text(MAX)", x.text(Integer.MAX_VALUE), -2);
        check.due("text(MIN)", x.text(Integer.MIN_VALUE), -2);
        check.due("the tape stays", x.count(10), 40);
        check.due("its first bytes", x.text(16), 2);
        check.due("the rest of the tape is gone", x.count(10), 0);
        check.due("places", x.count(1), 2);
        String all = "place a;place b;carrier x;carrier y;leg a b 5;rate 7;band 10 50;proviso x any most 7;"
            + "base x a b 9;ticket t 100 base a x b y a;";
        check.due("all sorts of lines", Check.tell(x, all), 10);
        x.fly(0, 0);
        x.fly(0, 1);
        x.clear();
        x.endorse(0, 1, 0);
        int undos = x.count(9);
        check.due("a fault", Check.tell(x, "place q;plac"), -1);
        check.due("all else stays: undo", x.count(9), undos);
        check.due("all else stays: lines", x.count(0), 10);
        check.due("all else stays: rate", x.count(7), 7);
        check.due("all else stays: flown", x.ticket(0, 3), 2);
        check.due("all else stays: cleared", x.cleared(1), x.share(0, 1));
        check.due("all else stays: places", x.count(1), 2);
        check.due("all else stays: miles", x.miles(0, 1), 5);
        check.due("the same again", Check.tell(x, all), 10);
        check.due("nothing flown", x.ticket(0, 3), 0);
        check.due("nothing cleared", x.cleared(1), 0);
        check.due("nothing to undo", x.undo(), -1);
        check.due("no bills", x.money(4), 0);
        x.fly(0, 0);
        x.fly(0, 1);
        check.due("an empty text", x.text(0), 0);
        check.due("bills are gone", x.money(4), 0);
        check.due("rate is 10 again", x.count(7), 10);
        check.due("no tickets", x.count(8), 0);
        check.due("weights are gone", x.weight(5), 100);
        check.due("no ways are left over", Check.tell(x, "place a;place b;"), 2);
        check.due("miles are gone", x.miles(0, 1), -2);
    }

    private static void words() {
        good(0, "");
        good(0, " \n ");
        good(1, "place\n\nabcdef ; ");
        good(3, "place a;carrier b;band1 1;");
        fault(1, "|;");
        fault(1, "|a;");
        fault(1, "|5;");
        fault(1, "|any;");
        fault(1, "place| ".trim());
        fault(1, "place |");
        fault(1, "place  \n |");
        fault(1, "place |;");
        fault(1, "place |5;");
        fault(1, "place |with;");
        fault(1, "place |proviso;");
        fault(1, "place |abcdefg;");
        fault(1, "place |carrierx;");
        fault(1, "place |provisos;");
        fault(1, "|places a;");
        fault(1, "place |A;");
        fault(1, "place a|B;");
        fault(1, "place a|\t;");
        fault(1, "place a|");
        fault(1, "place a |b;");
        fault(1, "place a|5;");
        fault(1, "place a;|;");
        fault(1, "place a;place b;|!");
        fault(1, "place a,|".replace(",|", "|,"));
        for (String word : ("place carrier leg band proviso any fixed part least most with base rate ticket miles").split(" ")) {
            fault(1, "carrier |" + word + ";");
        }
        good(1, "place placed;");
        good(1, "place mile;");
    }

    private static void numbers() {
        good(1, "rate 0000000000000000000099;");
        fault(2, "rate |0;");
        fault(2, "rate |100;");
        fault(2, "rate |4294967297;");
        fault(2, "rate |18446744073709551617;");
        fault(2, "rate |99999999999999999999999999999999999999999;");
        fault(1, "rate 5|x;");
        fault(1, "rate |x;");
        fault(1, "rate |-5;");
        fault(1, "rate 5 |5;");
    }

    private static void placesAndCarriers() {
        fault(3, "place a;place |a;");
        fault(3, "place a;carrier |a;");
        fault(3, "carrier a;place |a;");
        fault(3, "carrier a;carrier |a;");
        String told = "place a;place b;carrier x;leg a b 1;ticket t 5 miles a x b;";
        fault(3, told + "place |t;");
        fault(3, told + "carrier |t;");
        fault(3, told + "ticket |t 5 miles a x b;");
        fault(3, told + "ticket |a 5 miles a x b;");
        fault(3, told + "ticket |x 5 miles a x b;");
    }

    private static void legs() {
        String told = "place a;place b;place c;carrier x;";
        good(6, told + "leg a b 1;leg c b 9999;");
        fault(1, told + "leg |;");
        fault(1, told + "leg |q b 1;");
        fault(1, told + "leg |x b 1;");
        fault(1, told + "leg a |q 1;");
        fault(1, told + "leg a |x 1;");
        fault(1, told + "leg a |a 1;");
        fault(1, told + "leg a |5;");
        fault(1, told + "leg a b |;");
        fault(1, told + "leg a b |c;");
        fault(2, told + "leg a b |0;");
        fault(2, told + "leg a b |10000;");
        fault(3, told + "leg a b 1;leg a |b 1;");
        fault(3, told + "leg a b 1;leg b |a 0;");
        fault(1, told + "leg a b 1;leg b |b 1;");
    }

    private static void bands() {
        good(2, "band 1 1;band 9999 999;");
        fault(2, "band |0 1;");
        fault(2, "band |10000 1;");
        fault(2, "band 5 |0;");
        fault(2, "band 5 |1000;");
        fault(2, "band 5 1;band |5 1;");
        fault(2, "band 5 1;band |4 1;");
        fault(2, "band 9999 1;band |9999 1;");
        fault(1, "band |a 1;");
        fault(1, "band 1 |;");
        fault(1, "band 1 1|");
        fault(1, "band 1 1 |1;");
    }

    private static void provisos() {
        String told = "place a;place b;carrier x;carrier y;";
        good(8, told + "proviso x a b fixed 999999;proviso y any part 100;proviso x b a least 1 with y;proviso y any most 1;");
        fault(1, told + "proviso |a any fixed 1;");
        fault(1, told + "proviso |any any fixed 1;");
        fault(1, told + "proviso |q any fixed 1;");
        fault(1, told + "proviso x |fixed 1;");
        fault(1, told + "proviso x |x b fixed 1;");
        fault(1, told + "proviso x a |any fixed 1;");
        fault(1, told + "proviso x a |a fixed 1;");
        fault(1, told + "proviso x a |x fixed 1;");
        fault(1, told + "proviso x any |a fixed 1;");
        fault(1, told + "proviso x any |miles 1;");
        fault(1, told + "proviso x any |1;");
        fault(1, told + "proviso x any fixed |;");
        fault(2, told + "proviso x any fixed |0;");
        fault(2, told + "proviso x any fixed |1000000;");
        fault(2, told + "proviso x any part |0;");
        fault(2, told + "proviso x any part |101;");
        fault(2, told + "proviso x any least |1000000;");
        fault(2, told + "proviso x any most |0;");
        fault(1, told + "proviso x any most 1 |y;");
        fault(1, told + "proviso x any most 1 with |;");
        fault(1, told + "proviso x any most 1 with |x;");
        fault(1, told + "proviso x any most 1 with |a;");
        fault(1, told + "proviso x any most 1 with |z;");
        fault(1, told + "proviso x any most 1 with y |with y;");
        fault(1, told + "proviso x any most 1 with y|");
    }

    private static void bases() {
        String told = "place a;place b;place c;carrier x;carrier y;";
        good(8, told + "base x a b 1;base y b a 999999;base x a c 5;");
        fault(1, told + "base |a a b 1;");
        fault(1, told + "base x |x b 1;");
        fault(1, told + "base x |any 1;");
        fault(1, told + "base x a |a 1;");
        fault(1, told + "base x a |y 1;");
        fault(1, told + "base x a b |c;");
        fault(2, told + "base x a b |0;");
        fault(2, told + "base x a b |1000000;");
        fault(3, told + "base x a b 1;base x a |b 1;");
        fault(3, told + "base x a b 1;base x b |a 0;");
        fault(1, told + "base x a b 1|");
    }

    private static void rate() {
        good(1, "rate 1;");
        good(1, "rate 99;");
        fault(3, "rate 5;|rate 5;");
        fault(3, "rate 10;|rate !");
        fault(1, "rate|;");
    }

    private static void tickets() {
        String told = "place a;place b;place c;place d;carrier x;carrier y;leg a b 1;leg b c 1;";
        good(9, told + "ticket t 9999999 base a x b x a x b x a x b x a x b y a;");
        good(9, told + "ticket t 1 miles a x c;");
        fault(1, told + "ticket |base 1 miles a x b;");
        fault(1, told + "ticket |5 miles a x b;");
        fault(2, told + "ticket t |0 miles a x b;");
        fault(2, told + "ticket t |10000000 miles a x b;");
        fault(1, told + "ticket t |miles a x b;");
        fault(1, told + "ticket t 5 |a x b;");
        fault(1, told + "ticket t 5 |fixed a x b;");
        fault(1, told + "ticket t 5 miles |x b;");
        fault(1, told + "ticket t 5 miles |t x b;");
        fault(1, told + "ticket t 5 miles a|;");
        fault(1, told + "ticket t 5 miles a |b;");
        fault(1, told + "ticket t 5 miles a x|;");
        fault(1, told + "ticket t 5 miles a x |a;");
        fault(1, told + "ticket t 5 miles a x |d;");
        fault(1, told + "ticket t 5 miles a x |y;");
        fault(1, told + "ticket t 5 miles a x b y |b;");
        fault(1, told + "ticket t 5 miles a x b |c;");
        fault(1, told + "ticket t 5 miles a x b y c|");
        fault(1, told + "ticket t 5 miles a x |d;leg c d 1;");
        fault(2, told + "ticket t 5 miles a x b x a x b x a x b x a x b x a |x q;");
        fault(1, told + "ticket t 5 miles a x b x a x b x a x b x a x b x a |q b;");
        fault(1, told + "ticket t 5 miles a x b x a x b x a x b x a x b x a|");
    }

    private static void tooMany() {
        StringBuilder places = new StringBuilder();
        for (int i = 0; i < 12; i++) {
            places.append("place p").append((char) ('a' + i)).append(';');
        }
        good(12, places.toString());
        fault(2, places + "|place !");
        StringBuilder carriers = new StringBuilder();
        for (int i = 0; i < 6; i++) {
            carriers.append("carrier c").append((char) ('a' + i)).append(';');
        }
        good(18, places.toString() + carriers);
        fault(2, carriers + "|carrier ca;");
        StringBuilder legs = new StringBuilder(places);
        int told = 0;
        for (int i = 0; i < 12 && told < 24; i++) {
            for (int j = i + 1; j < 12 && told < 24; j++, told++) {
                legs.append("leg p").append((char) ('a' + i)).append(" p").append((char) ('a' + j)).append(" 1;");
            }
        }
        good(36, legs.toString());
        fault(2, legs + "|leg");
        good(5, "band 1 1;band 2 1;band 3 1;band 4 1;band 5 1;");
        fault(2, "band 1 1;band 2 1;band 3 1;band 4 1;band 5 1;|band 6 1;");
        good(17, "carrier x;" + "proviso x any fixed 1;".repeat(16));
        fault(2, "carrier x;" + "proviso x any fixed 1;".repeat(16) + "|proviso x any fixed 1;");
        StringBuilder bases = new StringBuilder(places + "carrier x;");
        for (int i = 0; i < 16; i++) {
            int from = i < 11 ? 0 : 1;
            int to = i < 11 ? i + 1 : i - 9;
            bases.append("base x p").append((char) ('a' + from)).append(" p").append((char) ('a' + to)).append(" 1;");
        }
        good(29, bases.toString());
        fault(2, bases + "|base x pa pb 1;");
        StringBuilder tickets = new StringBuilder("place a;place b;carrier x;leg a b 1;");
        for (int i = 0; i < 8; i++) {
            tickets.append("ticket t").append((char) ('a' + i)).append(" 1 miles a x b;");
        }
        good(12, tickets.toString());
        fault(2, tickets + "|ticket ta 1 miles a x b;");
    }

    private static void faultsOfLatestText() {
        Prorates x = new Prorates();
        Check.tell(x, "rate 5;rate 5;");
        check.due("a text that is too short", x.text(1), -2);
        check.due("the fault ahead of it", x.fault(0), 3);
        check.due("its place", x.fault(1), 7);
        check.due("fault(2)", x.fault(2), -1);
        check.due("fault(-1)", x.fault(-1), -1);
        Check.tell(x, "rate 5;");
        check.due("no fault any more", x.fault(0), 0);
        check.due("no place any more", x.fault(1), -1);
    }

    private static void counts() {
        Prorates x = Check.told("place a;place b;place c;carrier x;carrier y;leg a b 1;leg b c 1;band 1 1;rate 12;"
            + "proviso x any fixed 1;proviso y any fixed 1;proviso y any fixed 1;base x a b 1;ticket t 9 miles a x b;");
        int[] want = {14, 3, 2, 2, 1, 3, 1, 12, 1, 0, 0};
        for (int what = 0; what < want.length; what++) {
            check.due("count(" + what + ")", x.count(what), want[what]);
        }
        x.fly(0, 0);
        x.feed(1, 2, 3, 4, 5);
        check.due("count(9)", x.count(9), 1);
        check.due("count(10)", x.count(10), 20);
        check.due("count(11)", x.count(11), -1);
        check.due("count(-1)", x.count(-1), -1);
    }
}
