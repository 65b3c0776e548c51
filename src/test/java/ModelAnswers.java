import java.util.ArrayList;
import java.util.List;

/** The answers of the calls, out of the model. */
final class ModelAnswers {
    final Model m = new Model();

    private boolean place(int a) {
        return a >= 0 && a < m.told.places.size();
    }

    private boolean carrier(int c) {
        return c >= 0 && c < m.told.carriers.size();
    }

    private boolean proviso(int p) {
        return p >= 0 && p < m.told.provisos.size();
    }

    private boolean ticket(int t) {
        return t >= 0 && t < m.told.tickets.size();
    }

    private boolean coupon(int t, int k) {
        return ticket(t) && k >= 0 && k < m.told.tickets.get(t).n;
    }

    private int tickets() {
        return m.told.tickets.size();
    }

    private int flown(int t) {
        return m.done.flown.get(t).size();
    }

    private void keep() {
        m.history.add(m.done.copy());
        if (m.history.size() > 14) {
            m.history.remove(0);
        }
    }

    private static int total(List<Integer> numbers) {
        return numbers.stream().mapToInt(i -> i).sum();
    }

    private int net(int c) {
        int sum = 0;
        for (int d = 0; d < 6; d++) {
            sum += m.done.bills[c][d] - m.done.bills[d][c];
        }
        return sum;
    }

    private List<int[]> paid() {
        List<int[]> payments = new ArrayList<>();
        int[] nets = new int[6];
        for (int c = 0; c < 6; c++) {
            nets[c] = net(c);
        }
        while (true) {
            int low = 0;
            int high = 0;
            for (int c = 0; c < 6; c++) {
                if (nets[c] < nets[low]) {
                    low = c;
                }
                if (nets[c] > nets[high]) {
                    high = c;
                }
            }
            if (nets[low] == 0) {
                return payments;
            }
            int amount = Math.min(nets[high], -nets[low]);
            nets[low] += amount;
            nets[high] -= amount;
            payments.add(new int[] {low, high, amount});
        }
    }

    private int bills() {
        int sum = 0;
        for (int[] row : m.done.bills) {
            for (int bill : row) {
                sum += bill;
            }
        }
        return sum;
    }

    private static int at(int[] row, int i, int otherwise) {
        return i >= 0 && i < row.length ? row[i] : otherwise;
    }

    /** The answer of the call of that number (as the promises are numbered). */
    int answer(int promise, int[] a) {
        int x = a[0];
        int y = a[1];
        int z = a[2];
        switch (promise) {
            case 2:
                return m.feed(a);
            case 3:
                return m.text(x);
            case 4:
                return at(new int[] {m.fault, m.faultPlace}, x, -1);
            case 5:
                return place(x) && place(y) ? m.told.miles(x, y) : -1;
            case 6: {
                if (!place(x) || !place(y) || z < 0) {
                    return -1;
                }
                List<Integer> way = m.told.way(x, y);
                return way == null || z >= way.size() ? -2 : way.get(z);
            }
            case 7:
                return x < 1 || x > 200000 ? -1 : m.told.weight(x);
            case 8: {
                if (!carrier(x) || !place(y) || !place(z) || y == z) {
                    return -1;
                }
                return m.told.bases.getOrDefault(x + ":" + Model.Told.pair(y, z), -2);
            }
            case 9:
                return provisoAnswer(x, y);
            case 10:
                return ticketAnswer(x, y);
            case 11:
                return coupon(x, y) ? couponAnswer(x, y, z) : -1;
            case 12:
                return coupon(x, y) ? (int) m.now(x).share[y] : -1;
            case 13: {
                if (!ticket(x) || !carrier(y)) {
                    return -1;
                }
                return (int) sumOf(x, y, m.now(x).share, 0, 8);
            }
            case 14:
                return ticket(x) ? m.now(x).rounds : -1;
            case 15:
                return ticket(x) ? m.now(x).left : -1;
            case 16:
                return coupon(x, y) ? (int) m.straightOnes(x).share[y] : -1;
            case 17: {
                if (!coupon(x, y)) {
                    return -1;
                }
                return (int) m.prorate(x, m.done.carriers.get(x), m.done.flown.get(x), !m.told.tickets.get(x).byBase, -1, false).share[y];
            }
            case 18:
                return proviso(x) && coupon(y, z) ? (int) m.untold(x, y).share[z] : -1;
            case 19: {
                if (!proviso(x)) {
                    return -1;
                }
                int bits = 0;
                for (int t = 0; t < tickets(); t++) {
                    bits += java.util.Arrays.equals(m.now(t).share, m.untold(x, t).share) ? 0 : 1 << t;
                }
                return bits;
            }
            case 20:
                return proviso(x) && y >= 0 && y <= 3 ? harmed(x, y) : -1;
            default:
                return promise < 32 ? doneAnswer(promise, x, y, z) : sumAnswer(promise, x, y);
        }
    }

    private long sumOf(int t, int c, long[] shares, int from, int to) {
        long sum = 0;
        for (int k = from; k < Math.min(to, shares.length); k++) {
            sum += m.done.carriers.get(t).get(k) == c ? shares[k] : 0;
        }
        return sum;
    }

    private int provisoAnswer(int p, int what) {
        if (!proviso(p)) {
            return Check.OUT_OF_BOUNDS;
        }
        Model.Proviso v = m.told.provisos.get(p);
        int times = 0;
        for (int t = 0; t < tickets(); t++) {
            for (int k = 0; k < m.told.tickets.get(t).n; k++) {
                times += m.holds(t, k, m.done.carriers.get(t), -1) == p ? 1 : 0;
            }
        }
        int kind = List.of("", "fixed", "part", "least", "most").indexOf(v.kind());
        return at(new int[] {v.carrier(), v.a(), v.b(), kind, v.amount(), v.with(), times}, what, Check.NO_SUCH);
    }

    private int ticketAnswer(int t, int what) {
        if (!ticket(t)) {
            return Check.OUT_OF_BOUNDS;
        }
        Model.Ticket k = m.told.tickets.get(t);
        int miles = 0;
        for (int i = 0; i < k.n; i++) {
            miles += m.told.miles(k.stops[i], k.stops[i + 1]);
        }
        return at(new int[] {k.fare, k.byBase ? 1 : 0, k.n, flown(t), k.issuer, m.done.refunded.get(t) ? 1 : 0, miles,
            total(m.done.flown.get(t))}, what, Check.NO_SUCH);
    }

    private int couponAnswer(int t, int k, int what) {
        Model.Ticket v = m.told.tickets.get(t);
        Model.Shares s = m.now(t);
        return at(new int[] {m.done.carriers.get(t).get(k), v.stops[k], v.stops[k + 1], m.told.miles(v.stops[k], v.stops[k + 1]),
            (int) s.factor[k], k < flown(t) ? 1 : 0, s.by[k], s.holds[k] < 0 ? -2 : s.holds[k]}, what, -1);
    }

    private int harmed(int p, int what) {
        long best = 0;
        int who = -2;
        for (int c = 0; c < m.told.carriers.size(); c++) {
            long more = 0;
            for (int t = 0; t < tickets(); t++) {
                more += sumOf(t, c, m.untold(p, t).share, 0, 8) - sumOf(t, c, m.now(t).share, 0, 8);
            }
            more = what < 2 ? more : -more;
            if (more > best) {
                best = more;
                who = c;
            }
        }
        return who == -2 || what % 2 == 0 ? who : (int) best;
    }

    private int refusal(int t, int k, int c) {
        if (!coupon(t, k) || !carrier(c)) {
            return -1;
        }
        return k < flown(t) ? -2 : m.done.refunded.get(t) ? -3 : 0;
    }

    private int doneAnswer(int promise, int x, int y, int z) {
        switch (promise) {
            case 21: {
                if (!coupon(x, y)) {
                    return -1;
                }
                if (y < flown(x)) {
                    return -2;
                }
                if (m.done.refunded.get(x)) {
                    return -3;
                }
                if (y != flown(x)) {
                    return -4;
                }
                int share = (int) m.now(x).share[y];
                keep();
                m.done.flown.get(x).add(share);
                int c = m.done.carriers.get(x).get(y);
                int issuer = m.told.tickets.get(x).issuer;
                m.done.bills[c][issuer] += c == issuer ? 0 : share;
                return share;
            }
            case 22: {
                int refusal = refusal(x, y, z);
                if (refusal != 0) {
                    return refusal;
                }
                if (m.done.carriers.get(x).get(y) == z) {
                    return -4;
                }
                keep();
                m.done.carriers.get(x).set(y, z);
                return (int) m.now(x).share[y];
            }
            case 23: {
                if (!ticket(x)) {
                    return -1;
                }
                Model.Ticket t = m.told.tickets.get(x);
                if (flown(x) == t.n) {
                    return -2;
                }
                if (m.done.refunded.get(x)) {
                    return -3;
                }
                keep();
                m.done.refunded.set(x, true);
                int sum = 0;
                for (int k = flown(x); k < t.n; k++) {
                    sum += m.now(x).share[k];
                }
                return sum;
            }
            case 24: {
                if (bills() == 0) {
                    return -2;
                }
                keep();
                int sum = paid().stream().mapToInt(p -> p[2]).sum();
                for (int c = 0; c < 6; c++) {
                    m.done.cleared[c] += net(c);
                }
                m.done.bills = new int[6][6];
                return sum;
            }
            case 25: {
                if (m.history.isEmpty()) {
                    return -1;
                }
                m.done = m.history.remove(m.history.size() - 1);
                return m.history.size();
            }
            case 26:
                return carrier(x) && carrier(y) && x != y ? m.done.bills[x][y] : -1;
            case 27:
                return carrier(x) ? net(x) : -1000000000;
            case 28:
                return carrier(x) ? m.done.cleared[x] : -1000000000;
            case 29:
                return paid().size();
            case 30: {
                if (x < 0 || y < 0 || y > 2) {
                    return -1;
                }
                return x < paid().size() ? paid().get(x)[y] : -2;
            }
            default: {
                int refusal = refusal(x, y, z);
                return refusal != 0 ? refusal : (int) m.endorsed(x, y, z).share[y];
            }
        }
    }

    int cheapest(int t, int k, int what) {
        int refusal = refusal(t, k, 0);
        if (what < 0 || what > 1 || refusal != 0) {
            return what < 0 || what > 1 ? -1 : refusal;
        }
        int best = 0;
        for (int c = 0; c < m.told.carriers.size(); c++) {
            best = m.endorsed(t, k, c).share[k] < m.endorsed(t, k, best).share[k] ? c : best;
        }
        return what == 0 ? best : (int) m.endorsed(t, k, best).share[k];
    }

    private int[] carrierRow(int c) {
        int[] row = new int[6];
        for (int t = 0; t < tickets(); t++) {
            Model.Ticket v = m.told.tickets.get(t);
            for (int k = 0; k < v.n; k++) {
                boolean own = m.done.carriers.get(t).get(k) == c;
                if (own && k < flown(t)) {
                    row[0] += m.done.flown.get(t).get(k);
                    row[2] += m.told.miles(v.stops[k], v.stops[k + 1]);
                    row[3]++;
                } else if (own && !m.done.refunded.get(t)) {
                    row[1] += m.now(t).share[k];
                    row[4]++;
                }
            }
            row[5] += v.issuer == c ? 1 : 0;
        }
        return row;
    }

    private int ranked(int k) {
        List<Integer> order = new ArrayList<>();
        List<Long> all = new ArrayList<>();
        for (int c = 0; c < m.told.carriers.size(); c++) {
            long sum = 0;
            for (int t = 0; t < tickets(); t++) {
                sum += sumOf(t, c, m.now(t).share, 0, 8);
            }
            order.add(c);
            all.add(sum);
        }
        order.sort((c, d) -> Long.compare(all.get(d), all.get(c)));
        return k < 0 ? -1 : k < order.size() ? order.get(k) : -2;
    }

    private int sumAnswer(int promise, int x, int y) {
        switch (promise) {
            case 33:
                return carrier(x) ? at(carrierRow(x), y, -1) : -1;
            case 34: {
                if (!carrier(x)) {
                    return -1;
                }
                int[] row = carrierRow(x);
                return row[3] == 0 ? -2 : row[0] / row[2];
            }
            case 35:
                return ranked(x);
            case 36: {
                if (!ticket(x) || y < 0 || y > 1) {
                    return -1;
                }
                long[] now = m.now(x).share;
                long[] straight = m.straightOnes(x).share;
                int best = 0;
                for (int k = 0; k < now.length; k++) {
                    best = Math.abs(now[k] - straight[k]) > Math.abs(now[best] - straight[best]) ? k : best;
                }
                return y == 0 ? best : (int) (now[best] - straight[best]);
            }
            case 37: {
                if (!ticket(x) || y < 0 || y > 1) {
                    return -1;
                }
                int bits = 0;
                for (int k = 0; k < m.told.tickets.get(x).n; k++) {
                    boolean open = k >= flown(x) && !m.done.refunded.get(x);
                    bits += open && (y == 1 || k == flown(x)) ? 1 << k : 0;
                }
                return bits;
            }
            case 38:
                return money(x);
            default: {
                Model.Told t = m.told;
                return at(new int[] {t.lines, t.places.size(), t.carriers.size(), t.legs.size(), t.bands.size(), t.provisos.size(),
                    t.bases.size(), t.rate, t.tickets.size(), m.history.size(), m.tape.length()}, x, -1);
            }
        }
    }

    private int money(int what) {
        int[] row = new int[5];
        for (int t = 0; t < tickets(); t++) {
            long[] share = m.now(t).share;
            row[0] += m.told.tickets.get(t).fare;
            for (int k = 0; k < share.length; k++) {
                row[k < flown(t) ? 1 : m.done.refunded.get(t) ? 3 : 2] += share[k];
            }
        }
        row[4] = bills();
        return at(row, what, -1);
    }
}
