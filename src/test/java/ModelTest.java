import java.util.ArrayList;
import java.util.List;
import java.util.Random;

/** All promises: random texts and random calls, answered by the class and by the model. */
public final class ModelTest {
    private static final int RUNS = 1500;
    private static final int CALLS = 150;
    private static final Check check = new Check("ModelTest");
    private static final int[] SELDOM = {-1, 9, 12, 24, Integer.MAX_VALUE, Integer.MIN_VALUE, -2, 200000, 200001};

    public static void main(String[] args) {
        int good = 0;
        for (int seed = 0; seed < RUNS; seed++) {
            good += run(new Random(seed), seed) ? 1 : 0;
        }
        check.due("texts without a fault are many enough", good > RUNS / 2 ? 1 : 0, 1);
        check.end();
    }

    private static boolean run(Random random, int seed) {
        Prorates x = new Prorates();
        ModelAnswers model = new ModelAnswers();
        boolean good = tell(random, x, model, seed);
        for (int i = 0; i < CALLS; i++) {
            if (random.nextInt(120) == 0) {
                tell(random, x, model, seed);
            }
            // what is done comes more often than any one question
            int promise = random.nextInt(3) == 0 ? 21 + random.nextInt(5) : 4 + random.nextInt(36);
            int[] a = {argument(random, promise), argument(random, promise), argument(random, promise), 0, 0};
            compare(x, model, promise, a, seed);
        }
        return good;
    }

    private static int argument(Random random, int promise) {
        if (random.nextInt(25) == 0) {
            return SELDOM[random.nextInt(SELDOM.length)];
        }
        return random.nextInt(promise == 7 ? 12000 : random.nextBoolean() ? 4 : 8);
    }

    private static void compare(Prorates x, ModelAnswers model, int promise, int[] a, int seed) {
        int want = promise == 32 ? model.cheapest(a[0], a[1], a[2]) : model.answer(promise, a);
        int got = Check.answer(() -> call(x, promise, a));
        check.due("seed " + seed + ", promise " + promise + " of " + a[0] + ", " + a[1] + ", " + a[2], got, want);
    }

    private static int call(Prorates x, int promise, int[] a) {
        int p = a[0];
        int q = a[1];
        int r = a[2];
        return switch (promise) {
            case 2 -> x.feed(a[0], a[1], a[2], a[3], a[4]);
            case 3 -> x.text(p);
            case 4 -> x.fault(p);
            case 5 -> x.miles(p, q);
            case 6 -> x.way(p, q, r);
            case 7 -> x.weight(p);
            case 8 -> x.base(p, q, r);
            case 9 -> x.proviso(p, q);
            case 10 -> x.ticket(p, q);
            case 11 -> x.coupon(p, q, r);
            case 12 -> x.share(p, q);
            case 13 -> x.carried(p, q);
            case 14 -> x.rounds(p);
            case 15 -> x.left(p);
            case 16 -> x.straight(p, q);
            case 17 -> x.other(p, q);
            case 18 -> x.without(p, q, r);
            case 19 -> x.matters(p);
            case 20 -> x.harmed(p, q);
            case 21 -> x.fly(p, q);
            case 22 -> x.endorse(p, q, r);
            case 23 -> x.refund(p);
            case 24 -> x.clear();
            case 25 -> x.undo();
            case 26 -> x.bill(p, q);
            case 27 -> x.net(p);
            case 28 -> x.cleared(p);
            case 29 -> x.payments();
            case 30 -> x.payment(p, q);
            case 31 -> x.wouldEndorse(p, q, r);
            case 32 -> x.cheapest(p, q, r);
            case 33 -> x.carrier(p, q);
            case 34 -> x.perMile(p);
            case 35 -> x.ranked(p);
            case 36 -> x.most(p, q);
            case 37 -> x.may(p, q);
            case 38 -> x.money(p);
            default -> x.count(p);
        };
    }

    private static boolean tell(Random random, Prorates x, ModelAnswers model, int seed) {
        String text = new Text(random).write();
        if (random.nextInt(4) == 0) {
            text = spoil(random, text);
        }
        for (int i = 0; i < text.length(); i += 20) {
            int[] a = new int[5];
            for (int j = 0; j < 5; j++) {
                a[j] = Check.number(text, i + 4 * j);
            }
            compare(x, model, 2, a, seed);
        }
        int length = random.nextInt(20) == 0 ? random.nextInt(text.length() + 30) : text.length();
        compare(x, model, 3, new int[] {length, 0, 0}, seed);
        compare(x, model, 4, new int[] {0, 0, 0}, seed);
        compare(x, model, 4, new int[] {1, 0, 0}, seed);
        for (int what = 0; what <= 10; what++) {
            compare(x, model, 39, new int[] {what, 0, 0}, seed);
        }
        return x.fault(0) == 0;
    }

    /** One sign or one word less, more or otherwise. */
    private static String spoil(Random random, String text) {
        int at = random.nextInt(text.length());
        String signs = "abxyt0159;; \nA!\u00ff\u0000";
        char sign = signs.charAt(random.nextInt(signs.length()));
        switch (random.nextInt(5)) {
            case 0:
                return text.substring(0, at) + text.substring(at + 1);
            case 1:
                return text.substring(0, at) + sign + text.substring(at + 1);
            case 2:
                return text.substring(0, at) + sign + text.substring(at);
            case 3: {
                String[] lines = text.split("(?<=;)");
                int from = random.nextInt(lines.length);
                int to = random.nextInt(lines.length);
                String kept = lines[from];
                lines[from] = lines[to];
                lines[to] = kept;
                return String.join("", lines);
            }
            default: {
                String[] words = text.split("(?<= )");
                words[random.nextInt(words.length)] = words[random.nextInt(words.length)];
                return String.join("", words);
            }
        }
    }

    /** A random text that mostly has no fault. */
    private static final class Text {
        private final Random random;
        private final StringBuilder text = new StringBuilder();
        private final List<String> seen = new ArrayList<>();
        private final int places;
        private final int carriers;

        Text(Random random) {
            this.random = random;
            places = 2 + random.nextInt(random.nextInt(4) == 0 ? 11 : 4);
            carriers = 1 + random.nextInt(random.nextInt(2) == 0 ? 6 : 3);
        }

        private int below(int n) {
            return random.nextInt(n);
        }

        private String place(int i) {
            return Character.toString('a' + i);
        }

        private String carrier() {
            return "c" + place(below(carriers));
        }

        private String pair() {
            int a = below(places);
            int b = (a + 1 + below(places - 1)) % places;
            return place(a) + " " + place(b);
        }

        private void line(String line) {
            // a text that comes near the tape's end is cut short in whole lines
            if (text.length() + line.length() < 1180) {
                text.append(line).append(below(9) == 0 ? " ;\n" : ";");
            }
        }

        private int money(int most) {
            return 1 + below(below(3) == 0 ? most : 600);
        }

        String write() {
            for (int i = 0; i < places; i++) {
                line("place " + place(i));
            }
            for (int i = 0; i < carriers; i++) {
                line("carrier c" + place(i));
            }
            legs();
            bands();
            provisos();
            bases();
            if (below(2) == 0) {
                line("rate " + (1 + below(99)));
            }
            tickets();
            return text.toString();
        }

        private void legs() {
            int most = below(4) == 0 ? 9999 : below(2) == 0 ? 3 : 20;
            int total = 0;
            for (int i = 1; i < places; i++) {
                int b = below(i);
                seen.add(Model.Told.pair(i, b));
                line("leg " + place(i) + " " + place(b) + " " + (1 + below(most)));
                total++;
            }
            for (int i = below(8); i > 0 && total < 24; i--) {
                int a = below(places);
                int b = (a + 1 + below(places - 1)) % places;
                if (!seen.contains(Model.Told.pair(a, b))) {
                    seen.add(Model.Told.pair(a, b));
                    line("leg " + place(a) + " " + place(b) + " " + (1 + below(most)));
                    total++;
                }
            }
        }

        private void bands() {
            int miles = 0;
            for (int i = below(4); i > 0; i--) {
                miles += 1 + below(below(2) == 0 ? 5 : 2000);
                line("band " + miles + " " + (1 + below(999)));
            }
        }

        private void provisos() {
            String[] kinds = {"fixed", "part", "least", "most", "least", "most"};
            for (int i = below(17); i > 0; i--) {
                String kind = kinds[below(kinds.length)];
                String c = carrier();
                String with = carrier();
                int amount = kind.equals("part") ? 1 + below(below(2) == 0 ? 100 : 40) : money(3000);
                line("proviso " + c + " " + (below(3) == 0 ? "any" : pair()) + " " + kind + " " + amount
                    + (below(4) == 0 && !with.equals(c) ? " with " + with : ""));
            }
        }

        private void bases() {
            for (int i = below(8); i > 0; i--) {
                int a = below(places);
                int b = (a + 1 + below(places - 1)) % places;
                String c = carrier();
                if (!seen.contains(c + Model.Told.pair(a, b))) {
                    seen.add(c + Model.Told.pair(a, b));
                    line("base " + c + " " + place(a) + " " + place(b) + " " + money(9999));
                }
            }
        }

        private void tickets() {
            for (int i = 0; i < 1 + below(8); i++) {
                int here = below(places);
                int fare = below(5) == 0 ? 1 + below(9999999) : below(4) == 0 ? 1 + below(20) : 1 + below(3000);
                StringBuilder ticket = new StringBuilder("ticket t" + place(i) + " " + fare
                    + (below(2) == 0 ? " miles " : " base ") + place(here));
                for (int k = 1 + below(below(2) == 0 ? 8 : 4); k > 0; k--) {
                    here = (here + 1 + below(places - 1)) % places;
                    ticket.append(' ').append(carrier()).append(' ').append(place(here));
                }
                line(ticket.toString());
            }
        }
    }
}
