import java.util.NoSuchElementException;

/** Fares of tickets flown by several carriers, parted among them to the last cent. */
public final class Prorates {
    public static final int NONE = -1;

    /** The second, third and fourth answers, where a call has something to say beside NONE. */
    private static final int SECOND = -2;
    private static final int THIRD = -3;
    private static final int FOURTH = -4;
    /** A net may be -1 itself, so another number says that there is no such carrier. */
    private static final int NO_NET = -1000000000;

    private static final int TAPE_BYTES = 1200;
    private static final int FEED_BYTES = 20;
    private static final int MAX_PLACES = 12;
    private static final int MAX_CARRIERS = 6;
    private static final int MAX_LEGS = 24;
    private static final int MAX_BANDS = 5;
    private static final int MAX_PROVISOS = 16;
    private static final int MAX_BASES = 16;
    private static final int MAX_TICKETS = 8;
    private static final int MAX_COUPONS = 8;
    private static final int MAX_STEPS = 14;
    private static final int MAX_WEIGHED = 200000;
    private static final int MAX_MILES = 9999;
    private static final int MAX_WEIGHT = 999;
    private static final int MAX_PART = 100;
    private static final int MAX_AMOUNT = 999999;
    private static final int MAX_RATE = 99;
    private static final int MAX_FARE = 9999999;

    /** Far above the most miles of a way, and small enough that three of them can be added. */
    private static final int NO_WAY = 1000000;

    private static final int STRAIGHT = 0;
    private static final int FIXED = 1;
    private static final int PART = 2;
    private static final int LEAST = 3;
    private static final int MOST = 4;
    private static final int FLOWN = 5;

    private static final int BY_MILES = 0;
    private static final int BY_BASE = 1;

    private final int[] tape = new int[TAPE_BYTES];
    private int fed = 0;
    private Book told = new Book();
    /** What a text is read into, so that a text with a fault leaves all else as it is. */
    private Book draft = new Book();
    private final Reader reader = new Reader(tape, draft);
    private final Ledger ledger = new Ledger();
    private final Sharing sharing = new Sharing(told);
    private final Settlement settlement = new Settlement();
    private final int[] before = new int[MAX_COUPONS];
    private final int[] sums = new int[MAX_CARRIERS];

    public Prorates() {
    }

    public int feed(int a, int b, int c, int d, int e) {
        if (fed + FEED_BYTES > TAPE_BYTES) {
            return NONE;
        }
        feedNumber(a);
        feedNumber(b);
        feedNumber(c);
        feedNumber(d);
        feedNumber(e);
        return fed;
    }

    private void feedNumber(int number) {
        for (int shift = 24; shift >= 0; shift -= 8) {
            if (fed < tape.length) {
                tape[fed] = (number >> shift) & 255;
                fed++;
            }
        }
    }

    public int text(int n) {
        if (n < 0 || n > fed) {
            return SECOND;
        }
        fed = 0;
        reader.open(draft, n);
        for (int line = 0; line < n && reader.hasLine(); line++) {
            if (!reader.readLine()) {
                return NONE;
            }
        }
        Book old = told;
        told = draft;
        draft = old;
        ledger.open(told);
        return told.lines;
    }

    public int fault(int what) {
        switch (what) {
            case 0:
                return reader.fault;
            case 1:
                return reader.faultPlace;
            default:
                return NONE;
        }
    }

    private boolean isPlace(int a) {
        return a >= 0 && a < told.places;
    }

    private boolean isCarrier(int c) {
        return c >= 0 && c < told.carriers;
    }

    private boolean isProviso(int p) {
        return p >= 0 && p < told.provisos;
    }

    private boolean isTicket(int t) {
        return t >= 0 && t < told.tickets;
    }

    private boolean isCoupon(int t, int k) {
        return isTicket(t) && k >= 0 && k < told.couponsOf(t);
    }

    public int miles(int a, int b) {
        if (!isPlace(a) || !isPlace(b)) {
            return NONE;
        }
        return told.hasWay(a, b) ? told.distances[a][b] : SECOND;
    }

    public int way(int a, int b, int i) {
        if (!isPlace(a) || !isPlace(b) || i < 0) {
            return NONE;
        }
        if (!told.hasWay(a, b)) {
            return SECOND;
        }
        int here = a;
        for (int step = 0; step < MAX_PLACES; step++) {
            if (step == i) {
                return here;
            }
            here = told.nextOnWay(here, b);
            if (here == NONE) {
                return SECOND;
            }
        }
        return SECOND;
    }

    public int weight(int miles) {
        if (miles < 1 || miles > MAX_WEIGHED) {
            return NONE;
        }
        return told.weightOf(miles);
    }

    public int base(int c, int a, int b) {
        if (!isCarrier(c) || !isPlace(a) || !isPlace(b) || a == b) {
            return NONE;
        }
        int amount = told.baseOf(c, a, b);
        return amount == NONE ? SECOND : amount;
    }

    public int proviso(int p, int what) throws IndexOutOfBoundsException, NoSuchElementException {
        if (!isProviso(p)) {
            throw new IndexOutOfBoundsException("no such proviso");
        }
        if (what < 0 || what > 6) {
            throw new NoSuchElementException("no such what");
        }
        return what == 6 ? timesHeld(p) : told.provisoRows[p][what];
    }

    private int timesHeld(int p) {
        int times = 0;
        for (int t = 0; t < told.tickets; t++) {
            prorateNow(t);
            for (int k = 0; k < sharing.count; k++) {
                if (sharing.held[k] == p) {
                    times++;
                }
            }
        }
        return times;
    }

    public int ticket(int t, int what) throws IndexOutOfBoundsException, NoSuchElementException {
        if (!isTicket(t)) {
            throw new IndexOutOfBoundsException("no such ticket");
        }
        switch (what) {
            case 0:
                return told.fareOf(t);
            case 1:
                return told.howOf(t);
            case 2:
                return told.couponsOf(t);
            case 3:
                return ledger.flown[t];
            case 4:
                return ledger.issuers[t];
            case 5:
                return ledger.refunded[t] ? 1 : 0;
            case 6:
                return milesTogether(t);
            case 7:
                return flownTogether(t);
            default:
                throw new NoSuchElementException("no such what");
        }
    }

    private int milesTogether(int t) {
        int sum = 0;
        for (int k = 0; k < told.couponsOf(t); k++) {
            sum += told.milesOf(t, k);
        }
        return sum;
    }

    private int flownTogether(int t) {
        int sum = 0;
        for (int k = 0; k < ledger.flown[t]; k++) {
            sum += ledger.shares[t][k];
        }
        return sum;
    }

    public int coupon(int t, int k, int what) {
        if (!isCoupon(t, k)) {
            return NONE;
        }
        prorateNow(t);
        switch (what) {
            case 0:
                return ledger.carriers[t][k];
            case 1:
                return told.stops[t][k];
            case 2:
                return told.stops[t][k + 1];
            case 3:
                return told.milesOf(t, k);
            case 4:
                return (int) sharing.factor[k];
            case 5:
                return k < ledger.flown[t] ? 1 : 0;
            case 6:
                return sharing.by[k];
            case 7:
                return sharing.held[k] == NONE ? SECOND : sharing.held[k];
            default:
                return NONE;
        }
    }

    private void prorateNow(int t) {
        sharing.take(told, ledger, t);
        sharing.prorate();
    }

    private void prorateStraight(int t) {
        sharing.take(told, ledger, t);
        sharing.forgetProvisosAndFlown();
        sharing.prorate();
    }

    private void prorateWithout(int p, int t) {
        sharing.take(told, ledger, t);
        sharing.skipped = p;
        sharing.prorate();
    }

    private int shareNow(int t, int k) {
        prorateNow(t);
        return sharing.share[k];
    }

    private int shareEndorsed(int t, int k, int c) {
        sharing.take(told, ledger, t);
        sharing.carriers[k] = c;
        sharing.prorate();
        return sharing.share[k];
    }

    public int share(int t, int k) {
        return isCoupon(t, k) ? shareNow(t, k) : NONE;
    }

    public int carried(int t, int c) {
        if (!isTicket(t) || !isCarrier(c)) {
            return NONE;
        }
        prorateNow(t);
        int sum = 0;
        for (int k = 0; k < sharing.count; k++) {
            if (sharing.carriers[k] == c) {
                sum += sharing.share[k];
            }
        }
        return sum;
    }

    public int rounds(int t) {
        if (!isTicket(t)) {
            return NONE;
        }
        prorateNow(t);
        return sharing.rounds;
    }

    public int left(int t) {
        if (!isTicket(t)) {
            return NONE;
        }
        prorateNow(t);
        return sharing.left;
    }

    public int straight(int t, int k) {
        if (!isCoupon(t, k)) {
            return NONE;
        }
        prorateStraight(t);
        return sharing.share[k];
    }

    public int other(int t, int k) {
        if (!isCoupon(t, k)) {
            return NONE;
        }
        sharing.take(told, ledger, t);
        sharing.how = sharing.how == BY_MILES ? BY_BASE : BY_MILES;
        sharing.prorate();
        return sharing.share[k];
    }

    public int without(int p, int t, int k) {
        if (!isProviso(p) || !isCoupon(t, k)) {
            return NONE;
        }
        prorateWithout(p, t);
        return sharing.share[k];
    }

    public int matters(int p) {
        if (!isProviso(p)) {
            return NONE;
        }
        int bits = 0;
        for (int t = 0; t < told.tickets; t++) {
            keepSharesBefore(t);
            prorateWithout(p, t);
            if (sharesDiffer()) {
                bits |= 1 << t;
            }
        }
        return bits;
    }

    private boolean sharesDiffer() {
        for (int k = 0; k < sharing.count; k++) {
            if (sharing.share[k] != before[k]) {
                return true;
            }
        }
        return false;
    }

    private void keepSharesBefore(int t) {
        sharing.take(told, ledger, t);
        sharing.prorate();
        for (int k = 0; k < sharing.count; k++) {
            before[k] = sharing.share[k];
        }
    }

    public int harmed(int p, int what) {
        if (!isProviso(p) || what < 0 || what > 3) {
            return NONE;
        }
        sumGainsWithout(p);
        int sign = what < 2 ? 1 : -1;
        int first = NONE;
        int most = 0;
        for (int c = 0; c < told.carriers; c++) {
            if (sign * sums[c] > most) {
                most = sign * sums[c];
                first = c;
            }
        }
        if (first == NONE) {
            return SECOND;
        }
        return what == 0 || what == 2 ? first : most;
    }

    private void clearSums() {
        for (int c = 0; c < sums.length; c++) {
            sums[c] = 0;
        }
    }

    private void sumGainsWithout(int p) {
        clearSums();
        for (int t = 0; t < told.tickets; t++) {
            keepSharesBefore(t);
            prorateWithout(p, t);
            for (int k = 0; k < sharing.count; k++) {
                sums[sharing.carriers[k]] += sharing.share[k] - before[k];
            }
        }
    }

    public int fly(int t, int k) {
        if (!isCoupon(t, k)) {
            return NONE;
        }
        if (k < ledger.flown[t]) {
            return SECOND;
        }
        if (ledger.refunded[t]) {
            return THIRD;
        }
        if (k > ledger.flown[t]) {
            return FOURTH;
        }
        int share = shareNow(t, k);
        ledger.flyNext(t, share);
        return share;
    }

    /** Why a coupon can't be endorsed to a carrier, whichever one; 0 if it can. */
    private int endorsingRefused(int t, int k, int c) {
        if (!isCoupon(t, k) || !isCarrier(c)) {
            return NONE;
        }
        if (k < ledger.flown[t]) {
            return SECOND;
        }
        return ledger.refunded[t] ? THIRD : 0;
    }

    public int endorse(int t, int k, int c) {
        int refused = endorsingRefused(t, k, c);
        if (refused != 0) {
            return refused;
        }
        if (ledger.carriers[t][k] == c) {
            return FOURTH;
        }
        ledger.endorseTo(t, k, c);
        return shareNow(t, k);
    }

    public int refund(int t) {
        if (!isTicket(t)) {
            return NONE;
        }
        if (ledger.flown[t] >= told.couponsOf(t)) {
            return SECOND;
        }
        if (ledger.refunded[t]) {
            return THIRD;
        }
        ledger.refundTicket(t);
        return told.fareOf(t) - flownTogether(t);
    }

    public int clear() {
        if (ledger.billsTogether() == 0) {
            return SECOND;
        }
        settlement.settle(ledger, told.carriers);
        ledger.clearBills();
        return settlement.together();
    }

    public int undo() {
        return ledger.takeBackLatest() ? ledger.stepCount : NONE;
    }

    public int bill(int c, int to) {
        if (!isCarrier(c) || !isCarrier(to) || c == to) {
            return NONE;
        }
        return ledger.bills[c][to];
    }

    public int net(int c) {
        return isCarrier(c) ? ledger.netOf(c) : NO_NET;
    }

    public int cleared(int c) {
        return isCarrier(c) ? ledger.cleared[c] : NO_NET;
    }

    public int payments() {
        settlement.settle(ledger, told.carriers);
        return settlement.count;
    }

    public int payment(int i, int what) {
        if (i < 0 || what < 0 || what > 2) {
            return NONE;
        }
        settlement.settle(ledger, told.carriers);
        return i < settlement.count ? settlement.rows[i][what] : SECOND;
    }

    public int wouldEndorse(int t, int k, int c) {
        int refused = endorsingRefused(t, k, c);
        return refused != 0 ? refused : shareEndorsed(t, k, c);
    }

    public int cheapest(int t, int k, int what) {
        if (what < 0 || what > 1) {
            return NONE;
        }
        // a ticket can't be told without a carrier, so that carrier 0 is there if the coupon is
        int refused = endorsingRefused(t, k, 0);
        if (refused != 0) {
            return refused;
        }
        int first = 0;
        int least = shareEndorsed(t, k, 0);
        for (int c = 1; c < told.carriers; c++) {
            int share = shareEndorsed(t, k, c);
            if (share < least) {
                least = share;
                first = c;
            }
        }
        return what == 0 ? first : least;
    }

    public int carrier(int c, int what) {
        if (!isCarrier(c)) {
            return NONE;
        }
        switch (what) {
            case 0:
                return flownShares(c);
            case 1:
                return openShares(c);
            case 2:
                return flownMiles(c);
            case 3:
                return flownCoupons(c);
            case 4:
                return openCoupons(c);
            case 5:
                return issuedTickets(c);
            default:
                return NONE;
        }
    }

    private int flownShares(int c) {
        int sum = 0;
        for (int t = 0; t < told.tickets; t++) {
            for (int k = 0; k < ledger.flown[t]; k++) {
                sum += ledger.carriers[t][k] == c ? ledger.shares[t][k] : 0;
            }
        }
        return sum;
    }

    private int openShares(int c) {
        int sum = 0;
        for (int t = 0; t < told.tickets; t++) {
            if (!ledger.refunded[t]) {
                prorateNow(t);
                for (int k = sharing.flown; k < sharing.count; k++) {
                    sum += sharing.carriers[k] == c ? sharing.share[k] : 0;
                }
            }
        }
        return sum;
    }

    private int flownMiles(int c) {
        int sum = 0;
        for (int t = 0; t < told.tickets; t++) {
            for (int k = 0; k < ledger.flown[t]; k++) {
                sum += ledger.carriers[t][k] == c ? told.milesOf(t, k) : 0;
            }
        }
        return sum;
    }

    private int flownCoupons(int c) {
        int times = 0;
        for (int t = 0; t < told.tickets; t++) {
            for (int k = 0; k < ledger.flown[t]; k++) {
                times += ledger.carriers[t][k] == c ? 1 : 0;
            }
        }
        return times;
    }

    private int openCoupons(int c) {
        int times = 0;
        for (int t = 0; t < told.tickets; t++) {
            if (!ledger.refunded[t]) {
                for (int k = ledger.flown[t]; k < told.couponsOf(t); k++) {
                    times += ledger.carriers[t][k] == c ? 1 : 0;
                }
            }
        }
        return times;
    }

    private int issuedTickets(int c) {
        int times = 0;
        for (int t = 0; t < told.tickets; t++) {
            times += ledger.issuers[t] == c ? 1 : 0;
        }
        return times;
    }

    public int perMile(int c) {
        if (!isCarrier(c)) {
            return NONE;
        }
        int sum = flownMiles(c);
        return sum > 0 ? flownShares(c) / sum : SECOND;
    }

    public int ranked(int k) {
        if (k < 0) {
            return NONE;
        }
        sumAllShares();
        for (int c = 0; c < told.carriers; c++) {
            if (carriersAhead(c) == k) {
                return c;
            }
        }
        return SECOND;
    }

    private void sumAllShares() {
        clearSums();
        for (int t = 0; t < told.tickets; t++) {
            prorateNow(t);
            for (int k = 0; k < sharing.count; k++) {
                sums[sharing.carriers[k]] += sharing.share[k];
            }
        }
    }

    private int carriersAhead(int c) {
        int ahead = 0;
        for (int d = 0; d < told.carriers; d++) {
            if (sums[d] > sums[c] || (sums[d] == sums[c] && d < c)) {
                ahead++;
            }
        }
        return ahead;
    }

    public int most(int t, int what) {
        if (!isTicket(t) || what < 0 || what > 1) {
            return NONE;
        }
        keepSharesBefore(t);
        prorateStraight(t);
        int first = 0;
        int most = before[0] - sharing.share[0];
        for (int k = 1; k < sharing.count; k++) {
            int off = before[k] - sharing.share[k];
            if (Math.abs(off) > Math.abs(most)) {
                most = off;
                first = k;
            }
        }
        return what == 0 ? first : most;
    }

    public int may(int t, int what) {
        if (!isTicket(t) || what < 0 || what > 1) {
            return NONE;
        }
        int next = ledger.flown[t];
        if (ledger.refunded[t] || next >= told.couponsOf(t)) {
            return 0;
        }
        return what == 0 ? 1 << next : (1 << told.couponsOf(t)) - (1 << next);
    }

    public int money(int what) {
        switch (what) {
            case 0:
                return faresTogether();
            case 1:
                return allFlownTogether();
            case 2:
                return openTogether(false);
            case 3:
                return openTogether(true);
            case 4:
                return ledger.billsTogether();
            default:
                return NONE;
        }
    }

    private int faresTogether() {
        int sum = 0;
        for (int t = 0; t < told.tickets; t++) {
            sum += told.fareOf(t);
        }
        return sum;
    }

    private int allFlownTogether() {
        int sum = 0;
        for (int t = 0; t < told.tickets; t++) {
            sum += flownTogether(t);
        }
        return sum;
    }

    /** Shares of a ticket make up its fare, so those not flown are what the flown ones leave of it. */
    private int openTogether(boolean refunded) {
        int sum = 0;
        for (int t = 0; t < told.tickets; t++) {
            if (ledger.refunded[t] == refunded) {
                sum += told.fareOf(t) - flownTogether(t);
            }
        }
        return sum;
    }

    public int count(int what) {
        switch (what) {
            case 0:
                return told.lines;
            case 1:
                return told.places;
            case 2:
                return told.carriers;
            case 3:
                return told.legs;
            case 4:
                return told.bands;
            case 5:
                return told.provisos;
            case 6:
                return told.bases;
            case 7:
                return told.rate;
            case 8:
                return told.tickets;
            case 9:
                return ledger.stepCount;
            case 10:
                return fed;
            default:
                return NONE;
        }
    }

    /** What a token of the text can be; a word that the text keeps for itself is one of its own. */
    private enum Token {
        END(""), BAD(""), SEMICOLON(""), NUMBER(""), NAME(""),
        PLACE("place"), CARRIER("carrier"), LEG("leg"), BAND("band"), PROVISO("proviso"), ANY("any"),
        FIXED("fixed"), PART("part"), LEAST("least"), MOST("most"), WITH("with"), BASE("base"),
        RATE("rate"), TICKET("ticket"), MILES("miles");

        /** The word's letters as digits of a number, so that words are compared without a text made. */
        private final long code;

        Token(String word) {
            long sum = 0;
            for (int i = 0; i < word.length(); i++) {
                sum = sum * Reader.LETTERS + (word.charAt(i) - 'a' + 1);
            }
            code = sum;
        }
    }

    /** Reads the tape token by token into a book, up to the first fault. */
    private static final class Reader {
        private static final Token[] TOKENS = Token.values();
        private static final int LETTERS = 27;
        private static final int NAME_LETTERS = 6;
        private static final int WORD_LETTERS = 7;
        /** A number stops growing here: beyond all that a number may be, and its tenfold an int. */
        private static final int HUGE = 100000000;
        private static final int WRONG = 1;
        private static final int BEYOND = 2;
        private static final int TOLD_ALREADY = 3;

        private final int[] tape;
        private Book book;
        private int end = 0;
        private int at = 0;
        /** The token that comes next, where it stands, and the name or the number that it is. */
        private Token token = Token.END;
        private int place = 0;
        private long name = 0;
        private int number = 0;
        /** Where the token ahead of that one stands. */
        private int placeTaken = 0;
        private int fault = 0;
        private int faultPlace = NONE;

        private Reader(int[] tape, Book book) {
            this.tape = tape;
            this.book = book;
        }

        private void open(Book empty, int length) {
            book = empty;
            book.empty();
            end = Math.min(length, tape.length);
            at = 0;
            fault = 0;
            faultPlace = NONE;
            step();
        }

        private boolean hasLine() {
            return token != Token.END;
        }

        private void step() {
            placeTaken = place;
            while (at < end && (tape[at] == ' ' || tape[at] == 10)) {
                at++;
            }
            place = at;
            if (at >= end) {
                token = Token.END;
            } else if (tape[at] >= 'a' && tape[at] <= 'z') {
                scanWord();
            } else if (tape[at] >= '0' && tape[at] <= '9') {
                scanNumber();
            } else {
                token = tape[at] == ';' ? Token.SEMICOLON : Token.BAD;
                at++;
            }
        }

        private void scanWord() {
            int start = at;
            name = 0;
            while (at < end && tape[at] >= 'a' && tape[at] <= 'z') {
                if (at - start < WORD_LETTERS) {
                    name = name * LETTERS + (tape[at] - 'a' + 1);
                }
                at++;
            }
            int length = at - start;
            token = length > NAME_LETTERS ? Token.BAD : Token.NAME;
            for (int i = 0; i < TOKENS.length; i++) {
                if (length <= WORD_LETTERS && TOKENS[i].code == name) {
                    token = TOKENS[i];
                }
            }
        }

        private void scanNumber() {
            token = Token.NUMBER;
            number = 0;
            while (at < end && tape[at] >= '0' && tape[at] <= '9') {
                if (number < HUGE) {
                    number = number * 10 + (tape[at] - '0');
                }
                at++;
            }
        }

        private boolean failAt(int where, int kind) {
            fault = kind;
            faultPlace = where;
            return false;
        }

        private boolean failHere(int kind) {
            return failAt(place, kind);
        }

        private boolean failTaken(int kind) {
            return failAt(placeTaken, kind);
        }

        private boolean readLine() {
            switch (token) {
                case PLACE:
                    return book.places < MAX_PLACES ? readPlace() : failHere(BEYOND);
                case CARRIER:
                    return book.carriers < MAX_CARRIERS ? readCarrier() : failHere(BEYOND);
                case LEG:
                    return book.legs < MAX_LEGS ? readLeg() : failHere(BEYOND);
                case BAND:
                    return book.bands < MAX_BANDS ? readBand() : failHere(BEYOND);
                case PROVISO:
                    return book.provisos < MAX_PROVISOS ? readProviso() : failHere(BEYOND);
                case BASE:
                    return book.bases < MAX_BASES ? readBase() : failHere(BEYOND);
                case RATE:
                    return book.rateTold ? failHere(TOLD_ALREADY) : readRate();
                case TICKET:
                    return book.tickets < MAX_TICKETS ? readTicket() : failHere(BEYOND);
                default:
                    return failHere(WRONG);
            }
        }

        private boolean takeSemicolon() {
            if (token != Token.SEMICOLON) {
                return failHere(WRONG);
            }
            book.lines++;
            step();
            return true;
        }

        /** The name that comes next, if none is told so; 0 with a fault. */
        private long takeNewName() {
            if (token != Token.NAME) {
                failHere(WRONG);
                return 0;
            }
            if (book.knows(name)) {
                failHere(TOLD_ALREADY);
                return 0;
            }
            long taken = name;
            step();
            return taken;
        }

        /** The place told that comes next, another one than a given one; NONE with a fault. */
        private int takePlace(int unlike) {
            int found = token == Token.NAME ? book.placeNamed(name) : NONE;
            if (found == NONE || found == unlike) {
                failHere(WRONG);
                return NONE;
            }
            step();
            return found;
        }

        /** The carrier told that comes next, another one than a given one; NONE with a fault. */
        private int takeCarrier(int unlike) {
            int found = token == Token.NAME ? book.carrierNamed(name) : NONE;
            if (found == NONE || found == unlike) {
                failHere(WRONG);
                return NONE;
            }
            step();
            return found;
        }

        /** The number that comes next; NONE with a fault (no number that may stand there is below 0). */
        private int takeNumber(int from, int to) {
            if (token != Token.NUMBER) {
                failHere(WRONG);
                return NONE;
            }
            if (number < from || number > to) {
                failHere(BEYOND);
                return NONE;
            }
            int taken = number;
            step();
            return taken;
        }

        private int takeKind() {
            int kind = kindOf(token);
            if (kind == NONE) {
                failHere(WRONG);
            } else {
                step();
            }
            return kind;
        }

        private static int kindOf(Token word) {
            switch (word) {
                case FIXED:
                    return FIXED;
                case PART:
                    return PART;
                case LEAST:
                    return LEAST;
                case MOST:
                    return MOST;
                default:
                    return NONE;
            }
        }

        private int takeHow() {
            if (token != Token.MILES && token != Token.BASE) {
                failHere(WRONG);
                return NONE;
            }
            int how = token == Token.MILES ? BY_MILES : BY_BASE;
            step();
            return how;
        }

        private boolean readPlace() {
            step();
            long called = takeNewName();
            if (called == 0) {
                return false;
            }
            book.addPlace(called);
            return takeSemicolon();
        }

        private boolean readCarrier() {
            step();
            long called = takeNewName();
            if (called == 0) {
                return false;
            }
            book.addCarrier(called);
            return takeSemicolon();
        }

        private boolean readLeg() {
            step();
            int a = takePlace(NONE);
            if (a == NONE) {
                return false;
            }
            int b = takePlace(a);
            if (b == NONE) {
                return false;
            }
            if (book.legMiles[a][b] != 0) {
                return failTaken(TOLD_ALREADY);
            }
            int miles = takeNumber(1, MAX_MILES);
            if (miles == NONE) {
                return false;
            }
            book.addLeg(a, b, miles);
            return takeSemicolon();
        }

        private boolean readBand() {
            step();
            int upTo = takeNumber(book.lastBand() + 1, MAX_MILES);
            if (upTo == NONE) {
                return false;
            }
            int weight = takeNumber(1, MAX_WEIGHT);
            if (weight == NONE) {
                return false;
            }
            book.addBand(upTo, weight);
            return takeSemicolon();
        }

        private boolean readProviso() {
            step();
            int c = takeCarrier(NONE);
            if (c == NONE) {
                return false;
            }
            int from = SECOND;
            int to = SECOND;
            if (token == Token.ANY) {
                step();
            } else {
                from = takePlace(NONE);
                to = from == NONE ? NONE : takePlace(from);
                if (to == NONE) {
                    return false;
                }
            }
            int kind = takeKind();
            if (kind == NONE) {
                return false;
            }
            int amount = takeNumber(1, kind == PART ? MAX_PART : MAX_AMOUNT);
            if (amount == NONE) {
                return false;
            }
            int with = SECOND;
            if (token == Token.WITH) {
                step();
                with = takeCarrier(c);
            }
            if (with == NONE) {
                return false;
            }
            book.addProviso(c, from, to, kind, amount, with);
            return takeSemicolon();
        }

        private boolean readBase() {
            step();
            int c = takeCarrier(NONE);
            if (c == NONE) {
                return false;
            }
            int a = takePlace(NONE);
            if (a == NONE) {
                return false;
            }
            int b = takePlace(a);
            if (b == NONE) {
                return false;
            }
            if (book.baseOf(c, a, b) != NONE) {
                return failTaken(TOLD_ALREADY);
            }
            int amount = takeNumber(1, MAX_AMOUNT);
            if (amount == NONE) {
                return false;
            }
            book.addBase(c, a, b, amount);
            return takeSemicolon();
        }

        private boolean readRate() {
            step();
            int rate = takeNumber(1, MAX_RATE);
            if (rate == NONE) {
                return false;
            }
            book.rate = rate;
            book.rateTold = true;
            return takeSemicolon();
        }

        private boolean readTicket() {
            step();
            long called = takeNewName();
            if (called == 0) {
                return false;
            }
            int fare = takeNumber(1, MAX_FARE);
            if (fare == NONE) {
                return false;
            }
            int how = takeHow();
            if (how == NONE) {
                return false;
            }
            int from = takePlace(NONE);
            if (from == NONE) {
                return false;
            }
            book.beginTicket(fare, how, from);
            for (int k = 0; k <= MAX_COUPONS; k++) {
                if (k > 0 && token == Token.SEMICOLON) {
                    book.endTicket(called);
                    return takeSemicolon();
                }
                from = readCoupon(k, from);
                if (from == NONE) {
                    return false;
                }
            }
            return false;
        }

        /** Where the coupon flies to; NONE with a fault. */
        private int readCoupon(int k, int from) {
            int c = takeCarrier(NONE);
            if (c == NONE) {
                return NONE;
            }
            if (k >= MAX_COUPONS) {
                failTaken(BEYOND);
                return NONE;
            }
            int to = takePlace(from);
            if (to == NONE) {
                return NONE;
            }
            if (!book.hasWay(from, to)) {
                failTaken(WRONG);
                return NONE;
            }
            book.addCoupon(k, c, to);
            return to;
        }
    }

    /** What the text tells. */
    private static final class Book {
        private static final int RATE_UNTOLD = 10;
        private static final int WEIGHT_BEHIND = 100;

        private int lines = 0;
        private int places = 0;
        private int carriers = 0;
        private int legs = 0;
        private int bands = 0;
        private int provisos = 0;
        private int bases = 0;
        private int rate = RATE_UNTOLD;
        private boolean rateTold = false;
        private int tickets = 0;
        private final long[] placeNames = new long[MAX_PLACES];
        private final long[] carrierNames = new long[MAX_CARRIERS];
        private final long[] ticketNames = new long[MAX_TICKETS];
        /** Of the leg between two places; 0 if there is none. */
        private final int[][] legMiles = new int[MAX_PLACES][MAX_PLACES];
        private final int[][] distances = new int[MAX_PLACES][MAX_PLACES];
        /** Miles and weight. */
        private final int[][] bandRows = new int[MAX_BANDS][2];
        /** Carrier, two places, kind, amount, with whom: numbered as proviso() is asked for them. */
        private final int[][] provisoRows = new int[MAX_PROVISOS][6];
        /** Carrier, two places, amount. */
        private final int[][] baseRows = new int[MAX_BASES][4];
        /** Fare, how, number of coupons; then the carriers of these as told. */
        private final int[][] ticketRows = new int[MAX_TICKETS][3 + MAX_COUPONS];
        private final int[][] stops = new int[MAX_TICKETS][MAX_COUPONS + 1];

        private void empty() {
            lines = 0;
            places = 0;
            carriers = 0;
            legs = 0;
            bands = 0;
            provisos = 0;
            bases = 0;
            rate = RATE_UNTOLD;
            rateTold = false;
            tickets = 0;
            for (int a = 0; a < MAX_PLACES; a++) {
                for (int b = 0; b < MAX_PLACES; b++) {
                    legMiles[a][b] = 0;
                    distances[a][b] = a == b ? 0 : NO_WAY;
                }
            }
        }

        private static int indexOf(long name, long[] names, int count) {
            for (int i = 0; i < count && i < names.length; i++) {
                if (names[i] == name) {
                    return i;
                }
            }
            return NONE;
        }

        private int placeNamed(long name) {
            return indexOf(name, placeNames, places);
        }

        private int carrierNamed(long name) {
            return indexOf(name, carrierNames, carriers);
        }

        private boolean knows(long name) {
            return placeNamed(name) != NONE || carrierNamed(name) != NONE
                || indexOf(name, ticketNames, tickets) != NONE;
        }

        private void addPlace(long name) {
            placeNames[places] = name;
            places++;
        }

        private void addCarrier(long name) {
            carrierNames[carriers] = name;
            carriers++;
        }

        private void addLeg(int a, int b, int miles) {
            legMiles[a][b] = miles;
            legMiles[b][a] = miles;
            legs++;
            for (int i = 0; i < places; i++) {
                for (int j = 0; j < places; j++) {
                    int there = distances[i][a] + miles + distances[b][j];
                    int back = distances[i][b] + miles + distances[a][j];
                    distances[i][j] = Math.min(distances[i][j], Math.min(there, back));
                }
            }
        }

        private int lastBand() {
            return bands > 0 ? bandRows[bands - 1][0] : 0;
        }

        private void addBand(int upTo, int weight) {
            bandRows[bands][0] = upTo;
            bandRows[bands][1] = weight;
            bands++;
        }

        private void addProviso(int c, int from, int to, int kind, int amount, int with) {
            int[] row = provisoRows[provisos];
            row[0] = c;
            row[1] = from;
            row[2] = to;
            row[3] = kind;
            row[4] = amount;
            row[5] = with;
            provisos++;
        }

        private void addBase(int c, int a, int b, int amount) {
            int[] row = baseRows[bases];
            row[0] = c;
            row[1] = a;
            row[2] = b;
            row[3] = amount;
            bases++;
        }

        private void beginTicket(int fare, int how, int from) {
            ticketRows[tickets][0] = fare;
            ticketRows[tickets][1] = how;
            ticketRows[tickets][2] = 0;
            stops[tickets][0] = from;
        }

        private void addCoupon(int k, int c, int to) {
            ticketRows[tickets][2] = k + 1;
            ticketRows[tickets][3 + k] = c;
            stops[tickets][k + 1] = to;
        }

        /** Only now the ticket is told: one with a fault leaves no trace but a row to be written anew. */
        private void endTicket(long name) {
            ticketNames[tickets] = name;
            tickets++;
        }

        private boolean hasWay(int a, int b) {
            return distances[a][b] < NO_WAY;
        }

        /** The place behind here on the way to a goal, the least of several; NONE at the goal. */
        private int nextOnWay(int here, int goal) {
            for (int next = 0; next < places; next++) {
                int miles = legMiles[here][next];
                if (miles > 0 && miles + distances[next][goal] == distances[here][goal]) {
                    return next;
                }
            }
            return NONE;
        }

        private int weightOf(int miles) {
            for (int i = 0; i < bands; i++) {
                if (miles <= bandRows[i][0]) {
                    return bandRows[i][1];
                }
            }
            return WEIGHT_BEHIND;
        }

        private static boolean isPair(int a, int b, int c, int d) {
            return (a == c && b == d) || (a == d && b == c);
        }

        private int baseOf(int c, int a, int b) {
            for (int i = 0; i < bases; i++) {
                int[] row = baseRows[i];
                if (row[0] == c && isPair(row[1], row[2], a, b)) {
                    return row[3];
                }
            }
            return NONE;
        }

        private int fareOf(int t) {
            return ticketRows[t][0];
        }

        private int howOf(int t) {
            return ticketRows[t][1];
        }

        private int couponsOf(int t) {
            return ticketRows[t][2];
        }

        private int carrierTold(int t, int k) {
            return ticketRows[t][3 + k];
        }

        private int milesOf(int t, int k) {
            return distances[stops[t][k]][stops[t][k + 1]];
        }
    }

    /** What is done by call, and how the latest of it is undone. */
    private static final class Ledger {
        private static final int FLIGHT = 0;
        private static final int ENDORSEMENT = 1;
        private static final int REFUND = 2;
        private static final int CLEARING = 3;

        private final int[] issuers = new int[MAX_TICKETS];
        /** Coupons fly in their order, so that the flown ones are the first so many. */
        private final int[] flown = new int[MAX_TICKETS];
        private final boolean[] refunded = new boolean[MAX_TICKETS];
        private final int[][] carriers = new int[MAX_TICKETS][MAX_COUPONS];
        private final int[][] shares = new int[MAX_TICKETS][MAX_COUPONS];
        private final int[][] bills = new int[MAX_CARRIERS][MAX_CARRIERS];
        private final int[] cleared = new int[MAX_CARRIERS];
        /** A ring of what was done: what, ticket, coupon, the carrier ahead of an endorsement. */
        private final int[][] steps = new int[MAX_STEPS][4];
        private final int[][] billsBefore = new int[MAX_STEPS][MAX_CARRIERS * MAX_CARRIERS];
        private int firstStep = 0;
        private int stepCount = 0;

        private void open(Book book) {
            stepCount = 0;
            for (int t = 0; t < MAX_TICKETS; t++) {
                issuers[t] = book.carrierTold(t, 0);
                flown[t] = 0;
                refunded[t] = false;
                for (int k = 0; k < MAX_COUPONS; k++) {
                    carriers[t][k] = book.carrierTold(t, k);
                }
            }
            for (int c = 0; c < MAX_CARRIERS; c++) {
                cleared[c] = 0;
                for (int d = 0; d < MAX_CARRIERS; d++) {
                    bills[c][d] = 0;
                }
            }
        }

        /** The place in the ring of a new step; the eldest is forgotten if the ring is full. */
        private int addStep(int kind, int t, int k, int old) {
            int at = (firstStep + stepCount) % MAX_STEPS;
            if (stepCount < MAX_STEPS) {
                stepCount++;
            } else {
                firstStep = (firstStep + 1) % MAX_STEPS;
            }
            steps[at][0] = kind;
            steps[at][1] = t;
            steps[at][2] = k;
            steps[at][3] = old;
            return at;
        }

        private void addToBill(int t, int k, int amount) {
            if (carriers[t][k] != issuers[t]) {
                bills[carriers[t][k]][issuers[t]] += amount;
            }
        }

        private void flyNext(int t, int share) {
            int k = flown[t];
            if (k >= MAX_COUPONS) {
                return;
            }
            shares[t][k] = share;
            addToBill(t, k, share);
            flown[t]++;
            addStep(FLIGHT, t, k, NONE);
        }

        private void endorseTo(int t, int k, int c) {
            addStep(ENDORSEMENT, t, k, carriers[t][k]);
            carriers[t][k] = c;
        }

        private void refundTicket(int t) {
            refunded[t] = true;
            addStep(REFUND, t, NONE, NONE);
        }

        private void clearBills() {
            int at = addStep(CLEARING, NONE, NONE, NONE);
            for (int c = 0; c < MAX_CARRIERS; c++) {
                cleared[c] += netOf(c);
                for (int d = 0; d < MAX_CARRIERS; d++) {
                    billsBefore[at][c * MAX_CARRIERS + d] = bills[c][d];
                }
            }
            for (int c = 0; c < MAX_CARRIERS; c++) {
                for (int d = 0; d < MAX_CARRIERS; d++) {
                    bills[c][d] = 0;
                }
            }
        }

        private boolean takeBackLatest() {
            if (stepCount == 0) {
                return false;
            }
            stepCount--;
            int at = (firstStep + stepCount) % MAX_STEPS;
            int t = steps[at][1];
            int k = steps[at][2];
            switch (steps[at][0]) {
                case FLIGHT:
                    flown[t] = k;
                    addToBill(t, k, -shares[t][k]);
                    break;
                case ENDORSEMENT:
                    carriers[t][k] = steps[at][3];
                    break;
                case REFUND:
                    refunded[t] = false;
                    break;
                default:
                    takeBackClearing(at);
                    break;
            }
            return true;
        }

        private void takeBackClearing(int at) {
            for (int c = 0; c < MAX_CARRIERS; c++) {
                for (int d = 0; d < MAX_CARRIERS; d++) {
                    bills[c][d] = billsBefore[at][c * MAX_CARRIERS + d];
                }
            }
            for (int c = 0; c < MAX_CARRIERS; c++) {
                cleared[c] -= netOf(c);
            }
        }

        private int netOf(int c) {
            int sum = 0;
            for (int d = 0; d < MAX_CARRIERS; d++) {
                sum += bills[c][d] - bills[d][c];
            }
            return sum;
        }

        private int billsTogether() {
            int sum = 0;
            for (int c = 0; c < MAX_CARRIERS; c++) {
                for (int d = 0; d < MAX_CARRIERS; d++) {
                    sum += bills[c][d];
                }
            }
            return sum;
        }
    }

    /** The payments by which the nets of all carriers come to 0. */
    private static final class Settlement {
        private final int[] nets = new int[MAX_CARRIERS];
        /** Who pays, to whom, how much. */
        private final int[][] rows = new int[MAX_CARRIERS][3];
        private int count = 0;

        private void settle(Ledger ledger, int carriers) {
            count = 0;
            for (int c = 0; c < MAX_CARRIERS; c++) {
                nets[c] = ledger.netOf(c);
            }
            // each payment brings one net to 0 at least, so there are fewer of them than carriers
            for (int i = 0; i < carriers && i < MAX_CARRIERS; i++) {
                addPayment();
            }
        }

        private void addPayment() {
            int payer = 0;
            int payee = 0;
            for (int c = 1; c < MAX_CARRIERS; c++) {
                payer = nets[c] < nets[payer] ? c : payer;
                payee = nets[c] > nets[payee] ? c : payee;
            }
            int amount = Math.min(-nets[payer], nets[payee]);
            if (amount > 0 && count < MAX_CARRIERS) {
                nets[payer] += amount;
                nets[payee] -= amount;
                rows[count][0] = payer;
                rows[count][1] = payee;
                rows[count][2] = amount;
                count++;
            }
        }

        private int together() {
            int sum = 0;
            for (int i = 0; i < count; i++) {
                sum += rows[i][2];
            }
            return sum;
        }
    }

    /**
     * How the fare of one ticket is prorated. What is asked as if something were otherwise is altered
     * between take and prorate: the ticket itself stays as it is.
     */
    private static final class Sharing {
        private Book book;
        private int ticket = 0;
        private int count = 0;
        private int flown = 0;
        private int how = BY_MILES;
        /** The proviso that is taken as not told; NONE: all are told; SECOND: none is. */
        private int skipped = NONE;
        private final int[] carriers = new int[MAX_COUPONS];
        private final int[] held = new int[MAX_COUPONS];
        private final int[] kind = new int[MAX_COUPONS];
        private final int[] by = new int[MAX_COUPONS];
        /** What the proviso gives, in cents. */
        private final long[] value = new long[MAX_COUPONS];
        private final long[] factor = new long[MAX_COUPONS];
        private final int[] share = new int[MAX_COUPONS];
        /** What a share was cut by, over the sum of the one parting that left anything over. */
        private final long[] rest = new long[MAX_COUPONS];
        private final boolean[] among = new boolean[MAX_COUPONS];
        private long pool = 0;
        private int rounds = 0;
        private int left = 0;

        private Sharing(Book book) {
            this.book = book;
        }

        private void take(Book told, Ledger ledger, int t) {
            book = told;
            ticket = t;
            count = told.couponsOf(t);
            flown = ledger.flown[t];
            how = told.howOf(t);
            skipped = NONE;
            for (int k = 0; k < count; k++) {
                carriers[k] = ledger.carriers[t][k];
                share[k] = ledger.shares[t][k];
            }
        }

        private void forgetProvisosAndFlown() {
            skipped = SECOND;
            flown = 0;
        }

        private void prorate() {
            rounds = 0;
            pool = book.fareOf(ticket);
            for (int k = 0; k < count; k++) {
                held[k] = provisoHolding(k);
                weigh(k);
                factor[k] = factorOf(k);
                if (k < flown) {
                    by[k] = FLOWN;
                    pool -= share[k];
                } else {
                    by[k] = STRAIGHT;
                    share[k] = 0;
                    rest[k] = 0;
                }
            }
            if (!settleFixed() && !raiseToLeasts() && !lowerToMosts()) {
                partAmong(STRAIGHT);
            }
            giveCentsLeft();
        }

        private void weigh(int k) {
            kind[k] = STRAIGHT;
            value[k] = 0;
            if (held[k] != NONE) {
                int[] row = book.provisoRows[held[k]];
                kind[k] = row[3];
                value[k] = row[3] == PART ? (long) book.fareOf(ticket) * row[4] / 100 : row[4];
            }
        }

        private int provisoHolding(int k) {
            for (int p = 0; p < book.provisos && skipped != SECOND; p++) {
                if (p != skipped && canHold(book.provisoRows[p], k)) {
                    return p;
                }
            }
            return NONE;
        }

        private boolean canHold(int[] row, int k) {
            int from = book.stops[ticket][k];
            int to = book.stops[ticket][k + 1];
            return row[0] == carriers[k]
                && (row[1] == SECOND || Book.isPair(row[1], row[2], from, to))
                && (row[5] == SECOND || isOnAnother(row[5], k));
        }

        private boolean isOnAnother(int c, int k) {
            for (int i = 0; i < count; i++) {
                if (i != k && carriers[i] == c) {
                    return true;
                }
            }
            return false;
        }

        private long factorOf(int k) {
            int miles = book.milesOf(ticket, k);
            if (how == BY_MILES) {
                return (long) miles * book.weightOf(miles);
            }
            int amount = book.baseOf(carriers[k], book.stops[ticket][k], book.stops[ticket][k + 1]);
            return amount != NONE ? amount : (long) miles * book.rate;
        }

        /** Whether nothing is left to go on with, as in the two that follow. */
        private boolean settleFixed() {
            long sum = 0;
            boolean others = false;
            for (int k = flown; k < count; k++) {
                among[k] = kind[k] == FIXED || kind[k] == PART;
                if (among[k]) {
                    by[k] = kind[k];
                    sum += value[k];
                } else {
                    others = true;
                }
            }
            if (sum > pool) {
                partPool(value);
                return true;
            }
            giveValues(sum);
            if (!others) {
                partPool(factor);
            }
            return !others;
        }

        private boolean raiseToLeasts() {
            for (int round = 0; round < MAX_COUPONS; round++) {
                long sum = setBeyond(LEAST);
                if (sum == 0) {
                    return false;
                }
                rounds++;
                if (sum > pool) {
                    partPool(value);
                    return true;
                }
                giveValues(sum);
            }
            return false;
        }

        private boolean lowerToMosts() {
            for (int round = 0; round < MAX_COUPONS; round++) {
                long sum = setBeyond(MOST);
                if (sum == 0) {
                    return false;
                }
                rounds++;
                giveValues(sum);
                if (openFactors() == 0) {
                    partAmong(MOST);
                    return true;
                }
            }
            return false;
        }

        private long openFactors() {
            long sum = 0;
            for (int k = flown; k < count; k++) {
                sum += by[k] == STRAIGHT ? factor[k] : 0;
            }
            return sum;
        }

        /** Sets all at once whose straight part is beyond theirs: what they have so together (0: none). */
        private long setBeyond(int wanted) {
            long factors = openFactors();
            long sum = 0;
            for (int k = flown; k < count; k++) {
                long off = pool * factor[k] - value[k] * factors;
                among[k] = by[k] == STRAIGHT && kind[k] == wanted && (wanted == LEAST ? off < 0 : off > 0);
                if (among[k]) {
                    by[k] = wanted;
                    sum += value[k];
                }
            }
            return sum;
        }

        private void giveValues(long sum) {
            pool -= sum;
            for (int k = flown; k < count; k++) {
                if (among[k]) {
                    share[k] = (int) value[k];
                }
            }
        }

        private void partAmong(int group) {
            for (int k = flown; k < count; k++) {
                among[k] = by[k] == group;
            }
            partPool(factor);
        }

        /** Parts the pool besides what each has already; the cents that are left over stay in the pool. */
        private void partPool(long[] numbers) {
            long sum = 0;
            for (int k = flown; k < count; k++) {
                sum += among[k] ? numbers[k] : 0;
            }
            if (sum <= 0) {
                return;
            }
            long whole = pool;
            for (int k = flown; k < count; k++) {
                if (among[k]) {
                    long part = whole * numbers[k] / sum;
                    share[k] += (int) part;
                    rest[k] = whole * numbers[k] % sum;
                    pool -= part;
                }
            }
        }

        private void giveCentsLeft() {
            left = (int) pool;
            for (int i = 0; i < left && i < MAX_COUPONS; i++) {
                int k = greatestRest();
                if (k != NONE) {
                    share[k]++;
                    rest[k] = NONE;
                }
            }
        }

        /** The first of those with the greatest rest, of those that have got no cent yet. */
        private int greatestRest() {
            int found = NONE;
            for (int k = flown; k < count; k++) {
                if (rest[k] >= 0 && (found == NONE || rest[k] > rest[found])) {
                    found = k;
                }
            }
            return found;
        }
    }
}
