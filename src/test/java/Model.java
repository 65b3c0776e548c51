import java.math.BigInteger;
import java.util.ArrayList;
import java.util.Arrays;
import java.util.List;
import java.util.Map;
import java.util.TreeMap;

/** The document told a second time, in the plainest form: fractions, lists and whole copies of what was done. */
final class Model {
    static final class Fault extends Exception {
        private static final long serialVersionUID = 1;

        final int kind;
        final int place;

        Fault(int kind, int place) {
            this.kind = kind;
            this.place = place;
        }
    }

    /** A fraction of whole numbers; its lower part is above 0. */
    record Part(BigInteger up, BigInteger low) {
        static Part of(long number) {
            return new Part(BigInteger.valueOf(number), BigInteger.ONE);
        }

        Part plus(Part p) {
            return new Part(up.multiply(p.low).add(p.up.multiply(low)), low.multiply(p.low)).least();
        }

        Part times(long up, long low) {
            return new Part(this.up.multiply(BigInteger.valueOf(up)), this.low.multiply(BigInteger.valueOf(low))).least();
        }

        Part least() {
            BigInteger g = up.gcd(low);
            return g.signum() == 0 ? this : new Part(up.divide(g), low.divide(g));
        }

        int against(Part p) {
            return up.multiply(p.low).compareTo(p.up.multiply(low));
        }

        long floor() {
            return up.divide(low).longValueExact();
        }

        Part rest() {
            return new Part(up.mod(low), low);
        }
    }

    record Proviso(int carrier, int a, int b, String kind, int amount, int with) { }

    static final class Ticket {
        int fare;
        boolean byBase;
        int[] stops;
        int issuer;
        List<Integer> carriers = new ArrayList<>();
        int n;
    }

    static final class Told {
        int lines;
        List<String> places = new ArrayList<>();
        List<String> carriers = new ArrayList<>();
        List<String> names = new ArrayList<>();
        Map<String, Integer> legs = new TreeMap<>();
        List<int[]> bands = new ArrayList<>();
        List<Proviso> provisos = new ArrayList<>();
        Map<String, Integer> bases = new TreeMap<>();
        int rate = 10;
        boolean rateTold;
        List<Ticket> tickets = new ArrayList<>();

        static String pair(int a, int b) {
            return Math.min(a, b) + " " + Math.max(a, b);
        }

        /** The way of fewest miles, the first of several, by trying all; null if there is none. */
        List<Integer> way(int a, int b) {
            long[] far = new long[places.size()];
            Arrays.fill(far, Long.MAX_VALUE / 4);
            far[b] = 0;
            for (int round = 0; round < places.size(); round++) {
                for (int i = 0; i < far.length; i++) {
                    for (int j = 0; j < far.length; j++) {
                        Integer leg = legs.get(pair(i, j));
                        if (leg != null && i != j) {
                            far[i] = Math.min(far[i], far[j] + leg);
                        }
                    }
                }
            }
            if (far[a] >= Long.MAX_VALUE / 8) {
                return null;
            }
            List<Integer> way = new ArrayList<>(List.of(a));
            int here = a;
            while (here != b) {
                int next = -1;
                for (int j = far.length - 1; j >= 0; j--) {
                    Integer leg = legs.get(pair(here, j));
                    if (leg != null && here != j && leg + far[j] == far[here]) {
                        next = j;
                    }
                }
                way.add(next);
                here = next;
            }
            return way;
        }

        /** -2: there is no way. */
        int miles(int a, int b) {
            List<Integer> way = way(a, b);
            if (way == null) {
                return -2;
            }
            int sum = 0;
            for (int i = 1; i < way.size(); i++) {
                sum += legs.get(pair(way.get(i - 1), way.get(i)));
            }
            return sum;
        }

        int weight(int miles) {
            for (int[] band : bands) {
                if (miles <= band[0]) {
                    return band[1];
                }
            }
            return 100;
        }
    }

    /** What is done by call, copied whole ahead of each. */
    static final class Done {
        List<List<Integer>> carriers = new ArrayList<>();
        List<List<Integer>> flown = new ArrayList<>();
        List<Boolean> refunded = new ArrayList<>();
        int[][] bills = new int[6][6];
        int[] cleared = new int[6];

        Done copy() {
            Done d = new Done();
            for (List<Integer> row : carriers) {
                d.carriers.add(new ArrayList<>(row));
            }
            for (List<Integer> row : flown) {
                d.flown.add(new ArrayList<>(row));
            }
            d.refunded.addAll(refunded);
            for (int c = 0; c < 6; c++) {
                d.bills[c] = bills[c].clone();
            }
            d.cleared = cleared.clone();
            return d;
        }
    }

    private static final List<String> KEPT = List.of("place", "carrier", "leg", "band", "proviso", "any", "fixed", "part",
        "least", "most", "with", "base", "rate", "ticket", "miles");

    StringBuilder tape = new StringBuilder();
    int fault = 0;
    int faultPlace = -1;
    Told told = new Told();
    Done done = new Done();
    List<Done> history = new ArrayList<>();

    // ---- text

    private List<String> tokens;
    private List<Integer> at;
    private int next;
    private Told draft;

    int feed(int... numbers) {
        if (tape.length() + 20 > 1200) {
            return -1;
        }
        for (int number : numbers) {
            for (byte b : java.nio.ByteBuffer.allocate(4).putInt(number).array()) {
                tape.append((char) (b & 255));
            }
        }
        return tape.length();
    }

    int text(int n) {
        if (n < 0 || n > tape.length()) {
            return -2;
        }
        String text = tape.substring(0, n);
        tape.setLength(0);
        try {
            tokenize(text);
            draft = new Told();
            while (!peek().isEmpty()) {
                line();
                draft.lines++;
            }
        } catch (Fault f) {
            fault = f.kind;
            faultPlace = f.place;
            return -1;
        }
        fault = 0;
        faultPlace = -1;
        told = draft;
        done = new Done();
        for (Ticket t : told.tickets) {
            done.carriers.add(new ArrayList<>(t.carriers));
            done.flown.add(new ArrayList<>());
            done.refunded.add(false);
        }
        history.clear();
        return told.lines;
    }

    private void tokenize(String text) {
        tokens = new ArrayList<>();
        at = new ArrayList<>();
        java.util.regex.Matcher m = java.util.regex.Pattern.compile("[a-z]+|[0-9]+|[^ \n]", java.util.regex.Pattern.DOTALL).matcher(text);
        while (m.find()) {
            tokens.add(m.group());
            at.add(m.start());
        }
        tokens.add("");
        at.add(text.length());
        next = 0;
    }

    private String peek() {
        return tokens.get(next);
    }

    private Fault here(int kind) {
        return new Fault(kind, at.get(next));
    }

    private String word() throws Fault {
        if (!peek().matches("[a-z]{1,6}") || KEPT.contains(peek())) {
            throw here(1);
        }
        return peek();
    }

    private void newName() throws Fault {
        if (draft.names.contains(word())) {
            throw here(3);
        }
    }

    private int one(List<String> of, int unlike) throws Fault {
        int found = of.indexOf(word());
        if (found < 0 || found == unlike) {
            throw here(1);
        }
        next++;
        return found;
    }

    private int number(int from, int to) throws Fault {
        if (!peek().matches("[0-9]+")) {
            throw here(1);
        }
        BigInteger number = new BigInteger(peek());
        if (number.compareTo(BigInteger.valueOf(from)) < 0 || number.compareTo(BigInteger.valueOf(to)) > 0) {
            throw here(2);
        }
        next++;
        return number.intValueExact();
    }

    private void limit(int has, int most) throws Fault {
        if (has == most) {
            throw here(2);
        }
        next++;
    }

    private void toldAlready(boolean already) throws Fault {
        if (already) {
            next--;
            throw here(3);
        }
    }

    private void line() throws Fault {
        switch (peek()) {
            case "place" -> {
                limit(draft.places.size(), 12);
                newName();
                draft.places.add(peek());
                draft.names.add(tokens.get(next++));
            }
            case "carrier" -> {
                limit(draft.carriers.size(), 6);
                newName();
                draft.carriers.add(peek());
                draft.names.add(tokens.get(next++));
            }
            case "leg" -> {
                limit(draft.legs.size(), 24);
                int a = one(draft.places, -1);
                int b = one(draft.places, a);
                toldAlready(draft.legs.containsKey(Told.pair(a, b)));
                draft.legs.put(Told.pair(a, b), number(1, 9999));
            }
            case "band" -> {
                limit(draft.bands.size(), 5);
                int ahead = draft.bands.isEmpty() ? 0 : draft.bands.get(draft.bands.size() - 1)[0];
                int miles = number(ahead + 1, 9999);
                draft.bands.add(new int[] {miles, number(1, 999)});
            }
            case "proviso" -> {
                limit(draft.provisos.size(), 16);
                proviso();
            }
            case "base" -> {
                limit(draft.bases.size(), 16);
                int c = one(draft.carriers, -1);
                int a = one(draft.places, -1);
                int b = one(draft.places, a);
                String key = c + ":" + Told.pair(a, b);
                toldAlready(draft.bases.containsKey(key));
                draft.bases.put(key, number(1, 999999));
            }
            case "rate" -> {
                if (draft.rateTold) {
                    throw here(3);
                }
                next++;
                draft.rate = number(1, 99);
                draft.rateTold = true;
            }
            case "ticket" -> {
                limit(draft.tickets.size(), 8);
                ticket();
            }
            default -> throw here(1);
        }
        if (!peek().equals(";")) {
            throw here(1);
        }
        next++;
    }

    private void proviso() throws Fault {
        int c = one(draft.carriers, -1);
        int a = -2;
        int b = -2;
        if (peek().equals("any")) {
            next++;
        } else {
            a = one(draft.places, -1);
            b = one(draft.places, a);
        }
        String kind = peek();
        if (!List.of("fixed", "part", "least", "most").contains(kind)) {
            throw here(1);
        }
        next++;
        int amount = number(1, kind.equals("part") ? 100 : 999999);
        int with = -2;
        if (peek().equals("with")) {
            next++;
            with = one(draft.carriers, c);
        }
        draft.provisos.add(new Proviso(c, a, b, kind, amount, with));
    }

    private void ticket() throws Fault {
        newName();
        draft.names.add(tokens.get(next++));
        Ticket t = new Ticket();
        t.fare = number(1, 9999999);
        if (!peek().equals("miles") && !peek().equals("base")) {
            throw here(1);
        }
        t.byBase = tokens.get(next++).equals("base");
        List<Integer> stops = new ArrayList<>(List.of(one(draft.places, -1)));
        do {
            int c = one(draft.carriers, -1);
            if (t.carriers.size() == 8) {
                next--;
                throw here(2);
            }
            int from = stops.get(stops.size() - 1);
            int to = one(draft.places, from);
            if (draft.way(from, to) == null) {
                next--;
                throw here(1);
            }
            t.carriers.add(c);
            stops.add(to);
        } while (!peek().equals(";") && !peek().isEmpty());
        t.stops = stops.stream().mapToInt(i -> i).toArray();
        t.n = t.carriers.size();
        t.issuer = t.carriers.get(0);
        draft.tickets.add(t);
    }

    // ---- shares

    /** Shares, by, the provisos that hold, the factors, then rounds and cents left over. */
    static final class Shares {
        long[] share;
        int[] by;
        int[] holds;
        long[] factor;
        int rounds;
        int left;
    }

    int holds(int t, int k, List<Integer> carriers, int untold) {
        Ticket ticket = told.tickets.get(t);
        for (int p = 0; p < told.provisos.size(); p++) {
            Proviso v = told.provisos.get(p);
            boolean there = v.a < 0 || Told.pair(v.a, v.b).equals(Told.pair(ticket.stops[k], ticket.stops[k + 1]));
            List<Integer> rest = new ArrayList<>(carriers);
            rest.remove(k);
            if (p != untold && v.carrier == carriers.get(k) && there && (v.with < 0 || rest.contains(v.with))) {
                return p;
            }
        }
        return -1;
    }

    long factor(int t, int k, List<Integer> carriers, boolean byBase) {
        Ticket ticket = told.tickets.get(t);
        int a = ticket.stops[k];
        int b = ticket.stops[k + 1];
        int miles = told.miles(a, b);
        if (!byBase) {
            return (long) miles * told.weight(miles);
        }
        Integer base = told.bases.get(carriers.get(k) + ":" + Told.pair(a, b));
        return base != null ? base : (long) miles * told.rate;
    }

    private Part[] have;

    private void part(Part amount, List<Integer> among, long[] numbers) {
        long sum = 0;
        for (int k : among) {
            sum += numbers[k];
        }
        for (int k : among) {
            have[k] = have[k].plus(amount.times(numbers[k], sum));
        }
    }

    private static long sum(List<Integer> among, long[] numbers) {
        long sum = 0;
        for (int k : among) {
            sum += numbers[k];
        }
        return sum;
    }

    Shares prorate(int t, List<Integer> carriers, List<Integer> flown, boolean byBase, int untold, boolean noProvisos) {
        Ticket ticket = told.tickets.get(t);
        Shares s = new Shares();
        s.share = new long[ticket.n];
        s.by = new int[ticket.n];
        s.holds = new int[ticket.n];
        s.factor = new long[ticket.n];
        long[] value = new long[ticket.n];
        int[] kind = new int[ticket.n];
        have = new Part[ticket.n];
        long amount = ticket.fare;
        List<Integer> others = new ArrayList<>();
        for (int k = 0; k < ticket.n; k++) {
            have[k] = Part.of(0);
            s.holds[k] = noProvisos ? -1 : holds(t, k, carriers, untold);
            s.factor[k] = factor(t, k, carriers, byBase);
            if (s.holds[k] >= 0) {
                Proviso p = told.provisos.get(s.holds[k]);
                kind[k] = List.of("", "fixed", "part", "least", "most").indexOf(p.kind);
                value[k] = kind[k] == 2 ? (long) ticket.fare * p.amount / 100 : p.amount;
            }
            if (k < flown.size()) {
                s.by[k] = 5;
                s.share[k] = flown.get(k);
                amount -= flown.get(k);
            } else {
                others.add(k);
            }
        }
        List<Integer> all = List.copyOf(others);
        spread(s, amount, others, kind, value);
        long left = amount;
        for (int k : all) {
            s.share[k] = have[k].floor();
            left -= s.share[k];
        }
        s.left = (int) left;
        List<Integer> byRest = new ArrayList<>(all);
        byRest.sort((i, j) -> have[i].rest().against(have[j].rest()) != 0 ? -have[i].rest().against(have[j].rest()) : i - j);
        for (int i = 0; i < left; i++) {
            s.share[byRest.get(i)]++;
        }
        return s;
    }

    private void spread(Shares s, long amount, List<Integer> others, int[] kind, long[] value) {
        List<Integer> set = new ArrayList<>();
        for (int k : others) {
            if (kind[k] == 1 || kind[k] == 2) {
                set.add(k);
                s.by[k] = kind[k];
            }
        }
        others.removeAll(set);
        if (sum(set, value) > amount) {
            part(Part.of(amount), set, value);
            return;
        }
        for (int k : set) {
            have[k] = Part.of(value[k]);
        }
        amount -= sum(set, value);
        if (others.isEmpty()) {
            if (!set.isEmpty()) {
                part(Part.of(amount), set, s.factor);
            }
            return;
        }
        List<Integer> mosts = new ArrayList<>();
        for (int wanted = 3; wanted <= 4; wanted++) {
            while (true) {
                List<Integer> round = new ArrayList<>();
                for (int k : others) {
                    int off = Part.of(amount).times(s.factor[k], sum(others, s.factor)).against(Part.of(value[k]));
                    if (kind[k] == wanted && (wanted == 3 ? off < 0 : off > 0)) {
                        round.add(k);
                        s.by[k] = wanted;
                    }
                }
                if (round.isEmpty()) {
                    break;
                }
                s.rounds++;
                if (sum(round, value) > amount) {
                    part(Part.of(amount), round, value);
                    return;
                }
                for (int k : round) {
                    have[k] = Part.of(value[k]);
                }
                amount -= sum(round, value);
                others.removeAll(round);
                if (wanted == 4) {
                    mosts.addAll(round);
                }
                if (others.isEmpty()) {
                    part(Part.of(amount), mosts, s.factor);
                    return;
                }
            }
        }
        part(Part.of(amount), others, s.factor);
    }

    Shares now(int t) {
        return prorate(t, done.carriers.get(t), done.flown.get(t), told.tickets.get(t).byBase, -1, false);
    }

    Shares untold(int p, int t) {
        return prorate(t, done.carriers.get(t), done.flown.get(t), told.tickets.get(t).byBase, p, false);
    }

    Shares straightOnes(int t) {
        return prorate(t, done.carriers.get(t), List.of(), told.tickets.get(t).byBase, -1, true);
    }

    Shares endorsed(int t, int k, int c) {
        List<Integer> carriers = new ArrayList<>(done.carriers.get(t));
        carriers.set(k, c);
        return prorate(t, carriers, done.flown.get(t), told.tickets.get(t).byBase, -1, false);
    }
}
