import java.util.Arrays;

/** Partners' capital: who has what, how a sale would be shared, and how years are closed so that accounts follow it. */
public final class PartnerBooks {
    public static final int NONE = -1;

    private static final int OUTSIDE = -1000000000;
    private static final int NO_TIER = -2;
    private static final int EIGHT = 8;
    private static final int MOST_SUM = 1000000;
    private static final int MOST_DUTY = 100000;
    private static final int MOST_RATIO = 99;
    private static final int MOST_SALE = 100000000;
    private static final int MOST_TRIES = 200;
    private static final int MOST_YEARS = 20;
    private static final int MOST_BYTES = 400;
    private static final int MOST_FIRSTS = 8;
    private static final int MOST_SPECIALS = 8;
    private static final int MOST_THINGS = 40;
    private static final int MOST_ACTS = 30;
    private static final int MOST_DEEDS = 12;
    private static final int KEPT_PLACES = 2;

    private static final int CLOSE = 0;
    private static final int EARN = 1;
    private static final int LOSE = 2;
    private static final int BORROW = 3;
    private static final int REPAY = 4;
    private static final int MARKET = 5;
    private static final int PAY = 6;
    private static final int DRAW = 7;
    private static final int COME = 8;
    private static final int GO = 9;
    private static final int DUTY = 10;
    private static final int RATIO = 11;
    private static final int SELL = 12;

    private static final int SHARE_LESS = 0;
    private static final int CHARGED = 1;
    private static final int DEBT_LOSS = 2;
    private static final int CURED = 3;
    private static final int BY_SPECIALS = 4;
    private static final int BY_TARGETS = 5;
    private static final int BEHIND_LIMITS = 6;
    private static final int LEFTOVER = 7;

    private final Reader tape;
    private final Desk desk;
    private final Batch batch;
    private final Statement statement;
    private final State now;
    private final State[] deeds;
    private int deedCount;
    private int nextDeed;
    private final State[] kept;
    private final Books paper;
    private final Steps paperSteps;
    private int faultPlace;

    public PartnerBooks() {
        tape = new Reader();
        desk = new Desk();
        batch = new Batch();
        statement = new Statement();
        now = new State(new Tiers(), new Specials());
        deeds = new State[MOST_DEEDS];
        for (int k = 0; k < MOST_DEEDS; k++) {
            deeds[k] = new State(now.tiers, now.specials);
        }
        kept = new State[KEPT_PLACES];
        paper = new Books();
        paperSteps = new Steps();
        faultPlace = NONE;
    }

    public int feed(int a, int b, int c, int d, int e) {
        if (tape.length > MOST_BYTES - 20) {
            return NONE;
        }
        tape.addFour(a);
        tape.addFour(b);
        tape.addFour(c);
        tape.addFour(d);
        tape.addFour(e);
        return tape.length;
    }

    public int end(int n) {
        if (n < 0 || n > tape.length) {
            return NONE;
        }
        tape.length = n;
        return n;
    }

    public int tiers() {
        Tiers fresh = new Tiers();
        int told = fresh.readTiers(tape);
        tapeWasRead();
        if (told != NONE) {
            remember();
            now.tiers = fresh;
        }
        return told;
    }

    public int fault() {
        return faultPlace;
    }

    public int tier(int k, int what) {
        Tiers t = now.tiers;
        if (k < 0 || k >= t.count || what < 0 || what > EIGHT) {
            return NO_TIER;
        }
        return what == 0 ? t.sums[k] : t.weights[k * EIGHT + what - 1];
    }

    public int sale(int n, int p) {
        if (n < -MOST_SALE || n > MOST_SALE || !now.books.hasPartner(p)) {
            return OUTSIDE;
        }
        desk.sellAll(n, now.books, now.tiers);
        return desk.given[p];
    }

    public int is(int what) {
        Books b = now.books;
        switch (what) {
            case 0: return b.year;
            case 1: return b.result;
            case 2: return b.cash;
            case 3: return b.net();
            case 4: return b.held();
            case 5: return b.closedHeld;
            case 6: return b.partners;
            case 7: return b.assets;
            case 8: return total(b.capital);
            case 9: return total(b.share);
            case 10: return total(b.owed);
            case 11: return deedCount;
            case 12: return tape.length;
            default: return OUTSIDE;
        }
    }

    public int partner(int p, int what) {
        Books b = now.books;
        if (!b.hasPartner(p)) {
            return OUTSIDE;
        }
        switch (what) {
            case 0: return b.capital[p];
            case 1: return b.duty[p];
            case 2: return b.ratio[p];
            case 3: return b.share[p];
            case 4: return b.owed[p];
            case 5: return b.floorOf(p);
            case 6:
                desk.measureGaps(b, now.tiers, b.result);
                return desk.gaps[p];
            default: return OUTSIDE;
        }
    }

    public int asset(int i, int what) {
        Books b = now.books;
        if (!b.hasAsset(i)) {
            return NONE;
        }
        switch (what) {
            case 0: return b.book[i];
            case 1: return b.market[i];
            case 2: return b.debt[i];
            default: return NONE;
        }
    }

    public int come(int p, int n) {
        return begins(COME, p, n) ? perform(COME, p, n) : NONE;
    }

    public int go(int p) {
        return begins(GO, p, 0) ? perform(GO, p, 0) : OUTSIDE;
    }

    public int duty(int p, int n) {
        return begins(DUTY, p, n) ? perform(DUTY, p, n) : NONE;
    }

    public int ratio(int p, int n) {
        return begins(RATIO, p, n) ? perform(RATIO, p, n) : NONE;
    }

    public int pay(int p, int n) {
        return begins(PAY, p, n) ? perform(PAY, p, n) : OUTSIDE;
    }

    public int draw(int p, int n) {
        return begins(DRAW, p, n) ? perform(DRAW, p, n) : OUTSIDE;
    }

    public int buy(int book, int market, int debt) {
        int i = now.books.freeAsset();
        if (i == NONE || !isSum(book) || !isSum(market) || !isSum(debt)) {
            return NONE;
        }
        remember();
        now.books.addAsset(i, book, market, debt);
        return i;
    }

    public int sell(int i) {
        return begins(SELL, i, 0) ? perform(SELL, i, 0) : OUTSIDE;
    }

    public int market(int i, int n) {
        return begins(MARKET, i, n) ? perform(MARKET, i, n) : NONE;
    }

    public int lose(int i, int n) {
        return begins(LOSE, i, n) ? perform(LOSE, i, n) : NONE;
    }

    public int borrow(int i, int n) {
        return begins(BORROW, i, n) ? perform(BORROW, i, n) : NONE;
    }

    public int repay(int i, int n) {
        return begins(REPAY, i, n) ? perform(REPAY, i, n) : NONE;
    }

    public int earn(int n) {
        return begins(EARN, 0, n) ? perform(EARN, 0, n) : OUTSIDE;
    }

    public int close() {
        return begins(CLOSE, 0, 0) ? perform(CLOSE, 0, 0) : NONE;
    }

    public int step(int p, int what) {
        Steps s = now.steps;
        if (!s.known || p < NONE || p >= EIGHT) {
            return OUTSIDE;
        }
        if (what == LEFTOVER && p == NONE) {
            return s.leftover;
        }
        if (what < SHARE_LESS || what > BEHIND_LIMITS) {
            return OUTSIDE;
        }
        return p == NONE ? s.totalOf(what) : s.rows[what * EIGHT + p];
    }

    public int specials() {
        Specials fresh = new Specials();
        int told = fresh.readSpecials(tape);
        tapeWasRead();
        if (told != NONE) {
            remember();
            now.specials = fresh;
        }
        return told;
    }

    public int special(int k, int what) {
        Specials s = now.specials;
        if (k < 0 || k >= s.count) {
            return OUTSIDE;
        }
        switch (what) {
            case 0: return s.receiver[k];
            case 1: return s.sumOf(k, now.books);
            case 2: return s.gift(k, now.books);
            default: return OUTSIDE;
        }
    }

    public int acts() {
        int count = batch.readActs(tape);
        tapeWasRead();
        if (count == NONE) {
            return NONE;
        }
        batch.startRows();
        for (int k = 0; k < count; k++) {
            int kind = batch.kind[k];
            int who = batch.who[k];
            int n = batch.sum[k];
            if (!begins(kind, who, n)) {
                batch.endedBy = k;
                break;
            }
            batch.addRow(perform(kind, who, n));
        }
        return batch.done;
    }

    public int ended() {
        return batch.endedBy;
    }

    public int row(int k) {
        return k >= 0 && k < batch.done ? batch.rows[k] : OUTSIDE;
    }

    public int hand(int p, int q, int part) {
        Books b = now.books;
        if (!b.hasPartner(p) || q < 0 || q >= EIGHT || q == p || part < 1 || part > 100) {
            return OUTSIDE;
        }
        remember();
        if (!b.hasPartner(q)) {
            b.admit(q);
        }
        passOn(b.capital, p, q, part);
        passOn(b.share, p, q, part);
        passOn(b.owed, p, q, part);
        return b.capital[q];
    }

    public int breaks(int m) {
        if (m < 1 || m > MOST_TRIES || now.books.partners == 0) {
            return NONE;
        }
        for (int n = 1; n <= m; n++) {
            paper.copyBooks(now.books);
            closeOnPaper(-n);
            if (paperSteps.leftover > 0) {
                return n;
            }
        }
        return NONE;
    }

    public int gain(int i) {
        Books b = now.books;
        if (i == NONE) {
            return b.gainOfAll();
        }
        return b.hasAsset(i) ? b.market[i] - b.book[i] : OUTSIDE;
    }

    public int below() {
        Books b = now.books;
        int bits = 0;
        for (int p = 0; p < EIGHT; p++) {
            if (b.hasPartner(p) && b.capital[p] < b.floorOf(p)) {
                bits |= 1 << p;
            }
        }
        return bits;
    }

    public int tried(int p, int n) {
        if (n < -MOST_SUM || n > MOST_SUM || !now.books.hasPartner(p)) {
            return OUTSIDE;
        }
        paper.copyBooks(now.books);
        closeOnPaper(n);
        return paper.capital[p];
    }

    public int even(int p, int c, int m) {
        if (m < 0 || m > MOST_TRIES || !now.books.hasPartner(p)) {
            return NONE;
        }
        for (int n = 0; n <= m; n++) {
            paper.copyBooks(now.books);
            closeOnPaper(n);
            if (paper.capital[p] >= c) {
                return n;
            }
        }
        return NONE;
    }

    public int back() {
        if (deedCount == 0) {
            return NONE;
        }
        nextDeed = (nextDeed + MOST_DEEDS - 1) % MOST_DEEDS;
        deedCount--;
        now.copyState(deeds[nextDeed]);
        return deedCount;
    }

    public int fills(int n, int what) {
        if (n < 0 || n > MOST_SALE || now.books.partners == 0) {
            return OUTSIDE;
        }
        desk.sellAll(n, now.books, now.tiers);
        switch (what) {
            case 0: return desk.tiersFilled;
            case 1: return desk.leftForLast;
            default: return OUTSIDE;
        }
    }

    public int years(int p, int n, int many) {
        if (n < -MOST_SUM || n > MOST_SUM || many < 1 || many > MOST_YEARS || !now.books.hasPartner(p)) {
            return OUTSIDE;
        }
        paper.copyBooks(now.books);
        for (int k = 0; k < many; k++) {
            closeOnPaper(n);
        }
        return paper.capital[p];
    }

    public int exit(int p) {
        if (!now.books.hasPartner(p)) {
            return OUTSIDE;
        }
        paper.copyBooks(now.books);
        closeOnPaper(0);
        desk.valueAnew(paper, now.tiers, paperSteps);
        return Math.max(paper.capital[p], -paper.duty[p]);
    }

    public int first() {
        Books b = now.books;
        // However the new values are shared, together the accounts are more by all that was gained.
        desk.sellAll(total(b.capital) + b.gainOfAll(), b, now.tiers);
        int best = NONE;
        for (int p = 0; p < EIGHT; p++) {
            if (b.hasPartner(p) && (best == NONE || desk.given[p] > desk.given[best])) {
                best = p;
            }
        }
        return best;
    }

    public boolean keep(int k) {
        if (k < 0 || k >= KEPT_PLACES) {
            return false;
        }
        if (kept[k] == null) {
            kept[k] = new State(now.tiers, now.specials);
        }
        kept[k].copyState(now);
        return true;
    }

    public boolean restore(int k) {
        if (k < 0 || k >= KEPT_PLACES || kept[k] == null) {
            return false;
        }
        remember();
        now.copyState(kept[k]);
        return true;
    }

    public int write() {
        Books b = now.books;
        statement.length = 0;
        for (int p = 0; p < EIGHT; p++) {
            if (b.hasPartner(p)) {
                statement.addSign((char) ('a' + p));
                statement.addSign(':');
                statement.addNumber(b.capital[p]);
                statement.addSign(',');
                statement.addNumber(b.share[p]);
                statement.addSign(',');
                statement.addNumber(b.owed[p]);
                statement.addSign(';');
            }
        }
        statement.addSign('=');
        statement.addNumber(b.net());
        statement.addSign('.');
        return statement.length;
    }

    public int octet(int k) {
        return k >= 0 && k < statement.length ? statement.bytes[k] : NONE;
    }

    /** Whether the deed may be done; if so, what was ahead of it is remembered. */
    private boolean begins(int kind, int who, int n) {
        if (!isAllowed(kind, who, n)) {
            return false;
        }
        remember();
        return true;
    }

    private boolean isAllowed(int kind, int who, int n) {
        Books b = now.books;
        switch (kind) {
            case CLOSE: return b.partners != 0;
            case EARN: return n >= -MOST_SUM && n <= MOST_SUM;
            case LOSE: return b.hasAsset(who) && n >= 1 && n <= b.book[who];
            case BORROW: return b.hasAsset(who) && n >= 1 && n <= MOST_SUM - b.debt[who];
            case REPAY: return b.hasAsset(who) && n >= 1 && n <= b.debt[who];
            case MARKET: return b.hasAsset(who) && isSum(n);
            case PAY:
            case DRAW: return b.hasPartner(who) && n != 0 && isSum(n);
            case COME: return who >= 0 && who < EIGHT && !b.hasPartner(who) && isSum(n) && b.result == 0;
            case GO: return b.hasPartner(who) && b.partners != 1 << who && b.result == 0;
            case DUTY: return b.hasPartner(who) && n >= 0 && n <= MOST_DUTY;
            case RATIO: return b.hasPartner(who) && n >= 0 && n <= MOST_RATIO;
            case SELL: return b.hasAsset(who);
            default: return false;
        }
    }

    /** Does what isAllowed() has looked at: it relies on that look. */
    private int perform(int kind, int who, int n) {
        Books b = now.books;
        switch (kind) {
            case CLOSE: return desk.closeYear(b, now.tiers, now.specials, now.steps);
            case EARN: return b.earnMore(n);
            case LOSE: return b.writeOff(who, n);
            case BORROW: return b.changeDebt(who, n);
            case REPAY: return b.changeDebt(who, -n);
            case MARKET: return replace(b.market, who, n);
            case PAY: return b.payIn(who, n);
            case DRAW: return b.payIn(who, -n);
            case COME: return b.letIn(who, n, desk.valueAnew(b, now.tiers, now.steps));
            case GO:
                desk.valueAnew(b, now.tiers, now.steps);
                return desk.letOut(who, b);
            case DUTY: return replace(b.duty, who, n);
            case RATIO: return replace(b.ratio, who, n);
            case SELL: return b.sellAsset(who);
            default: return OUTSIDE;
        }
    }

    private void remember() {
        deeds[nextDeed].copyState(now);
        nextDeed = (nextDeed + 1) % MOST_DEEDS;
        deedCount = Math.min(deedCount + 1, MOST_DEEDS);
    }

    private void tapeWasRead() {
        faultPlace = tape.faultPlace;
        tape.length = 0;
    }

    private void closeOnPaper(int more) {
        paper.earnMore(more);
        desk.closeYear(paper, now.tiers, now.specials, paperSteps);
    }

    private static boolean isSum(int n) {
        return n >= 0 && n <= MOST_SUM;
    }

    private static int replace(int[] row, int k, int n) {
        int was = row[k];
        row[k] = n;
        return was;
    }

    private static void passOn(int[] row, int p, int q, int part) {
        int n = (int) ((long) row[p] * part / 100);
        row[p] -= n;
        row[q] += n;
    }

    private static int total(int[] row) {
        int sum = 0;
        for (int k = 0; k < row.length; k++) {
            sum += row[k];
        }
        return sum;
    }

    private static void addAll(int[] row, int[] parts) {
        for (int k = 0; k < EIGHT; k++) {
            row[k] += parts[k];
        }
    }

    private static void takeAll(int[] row, int[] parts) {
        for (int k = 0; k < EIGHT; k++) {
            row[k] -= parts[k];
        }
    }

    private static void copyEight(int[] from, int[] to) {
        System.arraycopy(from, 0, to, 0, EIGHT);
    }

    /** All that is taken back and kept. */
    private static final class State {
        final Books books = new Books();
        final Steps steps = new Steps();
        // A text that was read is never changed later, so states may share it.
        Tiers tiers;
        Specials specials;

        State(Tiers tiers, Specials specials) {
            this.tiers = tiers;
            this.specials = specials;
        }

        void copyState(State other) {
            books.copyBooks(other.books);
            steps.copySteps(other.steps);
            tiers = other.tiers;
            specials = other.specials;
        }
    }

    /** The accounts; what belongs to nobody there, or to no asset there, is 0. */
    private static final class Books {
        int partners;
        int assets;
        int cash;
        int result;
        int year;
        int closedHeld;
        final int[] capital = new int[EIGHT];
        final int[] duty = new int[EIGHT];
        final int[] ratio = new int[EIGHT];
        final int[] share = new int[EIGHT];
        final int[] owed = new int[EIGHT];
        final int[] book = new int[EIGHT];
        final int[] market = new int[EIGHT];
        final int[] debt = new int[EIGHT];

        void copyBooks(Books other) {
            partners = other.partners;
            assets = other.assets;
            cash = other.cash;
            result = other.result;
            year = other.year;
            closedHeld = other.closedHeld;
            copyEight(other.capital, capital);
            copyEight(other.duty, duty);
            copyEight(other.ratio, ratio);
            copyEight(other.share, share);
            copyEight(other.owed, owed);
            copyEight(other.book, book);
            copyEight(other.market, market);
            copyEight(other.debt, debt);
        }

        boolean hasPartner(int p) {
            return p >= 0 && p < EIGHT && (partners >> p & 1) != 0;
        }

        boolean hasAsset(int i) {
            return i >= 0 && i < EIGHT && (assets >> i & 1) != 0;
        }

        int net() {
            int sum = cash;
            for (int i = 0; i < EIGHT; i++) {
                sum += book[i] - debt[i];
            }
            return sum;
        }

        int held() {
            int sum = 0;
            for (int i = 0; i < EIGHT; i++) {
                if (debt[i] > book[i]) {
                    sum += debt[i] - book[i];
                }
            }
            return sum;
        }

        int gainOfAll() {
            return total(market) - total(book);
        }

        int floorOf(int p) {
            return -duty[p] - share[p];
        }

        void admit(int p) {
            partners |= 1 << p;
            ratio[p] = 1;
        }

        /** The first one has what all became more by, too. */
        int letIn(int p, int n, int more) {
            boolean isAlone = partners == 0;
            admit(p);
            capital[p] = isAlone ? more : 0;
            return payIn(p, n);
        }

        void dismiss(int p) {
            partners &= ~(1 << p);
            capital[p] = 0;
            duty[p] = 0;
            ratio[p] = 0;
            share[p] = 0;
            owed[p] = 0;
        }

        int freeAsset() {
            for (int i = 0; i < EIGHT; i++) {
                if (!hasAsset(i)) {
                    return i;
                }
            }
            return NONE;
        }

        void addAsset(int i, int itsBook, int itsMarket, int itsDebt) {
            assets |= 1 << i;
            book[i] = itsBook;
            market[i] = itsMarket;
            debt[i] = itsDebt;
            cash -= itsBook - itsDebt;
        }

        int sellAsset(int i) {
            cash += market[i] - debt[i];
            result += market[i] - book[i];
            assets &= ~(1 << i);
            book[i] = 0;
            market[i] = 0;
            debt[i] = 0;
            return result;
        }

        int writeOff(int i, int n) {
            book[i] -= n;
            result -= n;
            return book[i];
        }

        int changeDebt(int i, int more) {
            debt[i] += more;
            cash += more;
            return debt[i];
        }

        int earnMore(int n) {
            result += n;
            cash += n;
            return result;
        }

        int payIn(int p, int n) {
            capital[p] += n;
            cash += n;
            return capital[p];
        }
    }

    /** What the latest closing or valuing did, a row of eight for each of its steps. */
    private static final class Steps {
        boolean known;
        int leftover;
        final int[] rows = new int[EIGHT * LEFTOVER];

        void copySteps(Steps other) {
            known = other.known;
            leftover = other.leftover;
            System.arraycopy(other.rows, 0, rows, 0, rows.length);
        }

        void startAnew() {
            known = true;
            leftover = 0;
            Arrays.fill(rows, 0);
        }

        void putRow(int what, int[] parts) {
            System.arraycopy(parts, 0, rows, what * EIGHT, EIGHT);
        }

        int totalOf(int what) {
            int sum = 0;
            for (int p = 0; p < EIGHT; p++) {
                sum += rows[what * EIGHT + p];
            }
            return sum;
        }
    }

    /** The tiers of a sale; the last one has no sum of its own. A new one is as by an empty text. */
    private static final class Tiers {
        int count = 1;
        final int[] sums = new int[MOST_FIRSTS + 1];
        final int[] weights = new int[(MOST_FIRSTS + 1) * EIGHT];

        Tiers() {
            sums[0] = NONE;
            Arrays.fill(weights, 0, EIGHT, 1);
        }

        /** How many tiers the text tells (0: it is empty), or NONE. */
        int readTiers(Reader in) {
            in.start();
            if (in.isAtEnd()) {
                return 0;
            }
            int firsts = 0;
            for (int k = 0; k < MOST_FIRSTS && in.isWord("first"); k++) {
                in.advance();
                sums[k] = in.needNumber(1, MOST_SUM - 1);
                if (sums[k] == NONE || !readGives(in, k)) {
                    return NONE;
                }
                firsts++;
            }
            if (!in.needWord("rest") || !readGives(in, firsts) || !in.needEnd()) {
                return NONE;
            }
            sums[firsts] = NONE;
            count = firsts + 1;
            return count;
        }

        private boolean readGives(Reader in, int k) {
            int from = k * EIGHT;
            Arrays.fill(weights, from, from + EIGHT, 0);
            if (!in.needWord("to")) {
                return false;
            }
            for (int n = 0; n < EIGHT; n++) {
                int p = in.partnerHere();
                if (p == NONE || weights[from + p] != 0) {
                    return in.refuse();
                }
                in.advance();
                int weight = in.needNumber(1, 99);
                if (weight == NONE) {
                    return false;
                }
                weights[from + p] = weight;
                if (!in.isSign('+')) {
                    return in.needSign(';');
                }
                in.advance();
            }
            // A ninth partner of a tier is one of the eight again.
            return in.refuse();
        }
    }

    /** What is given ahead of the targets. Things lie in one row; a sum is a stretch of it. */
    private static final class Specials {
        static final int NUMBER = 0;
        static final int RESULT = 1;
        static final int CASH = 2;
        static final int HELD = 3;
        static final int YEAR = 4;
        static final int NET = 5;
        static final int CAPITAL = 6;
        static final int SHARE = 7;
        static final char ALWAYS = ' ';

        int count;
        int things;
        final int[] receiver = new int[MOST_SPECIALS];
        final int[] sumFrom = new int[MOST_SPECIALS];
        final int[] sumTo = new int[MOST_SPECIALS];
        final int[] leftTo = new int[MOST_SPECIALS];
        final int[] rightTo = new int[MOST_SPECIALS];
        final char[] relation = new char[MOST_SPECIALS];
        final int[] kind = new int[MOST_THINGS];
        final int[] value = new int[MOST_THINGS];
        final char[] operator = new char[MOST_THINGS];

        int sumOf(int k, Books b) {
            return evaluate(sumFrom[k], sumTo[k], b);
        }

        int gift(int k, Books b) {
            if (!b.hasPartner(receiver[k]) || b.result <= 0) {
                return 0;
            }
            if (relation[k] != ALWAYS) {
                int left = evaluate(sumTo[k], leftTo[k], b);
                int right = evaluate(leftTo[k], rightTo[k], b);
                if (relation[k] == '<' ? left >= right : left <= right) {
                    return 0;
                }
            }
            return Math.max(0, Math.min(b.result, evaluate(sumFrom[k], sumTo[k], b)));
        }

        private int evaluate(int from, int to, Books b) {
            int sum = 0;
            int product = 0;
            boolean isLess = false;
            for (int t = from; t < to; t++) {
                int v = valueOf(t, b);
                if (operator[t] == '*') {
                    product *= v;
                } else if (operator[t] == '/') {
                    product = v == 0 ? 0 : product / v;
                } else {
                    sum = isLess ? sum - product : sum + product;
                    product = v;
                    isLess = operator[t] == '-';
                }
            }
            return isLess ? sum - product : sum + product;
        }

        private int valueOf(int t, Books b) {
            switch (kind[t]) {
                case RESULT: return b.result;
                case CASH: return b.cash;
                case HELD: return b.held();
                case YEAR: return b.year;
                case NET: return b.net();
                case CAPITAL: return b.capital[value[t]];
                case SHARE: return b.share[value[t]];
                default: return value[t];
            }
        }

        /** How many specials the text tells, or NONE. */
        int readSpecials(Reader in) {
            in.start();
            for (int k = 0; k < MOST_SPECIALS && in.isWord("give"); k++) {
                in.advance();
                if (!readGive(in, k)) {
                    return NONE;
                }
                count++;
            }
            return in.needEnd() ? count : NONE;
        }

        private boolean readGive(Reader in, int k) {
            receiver[k] = in.needPartner();
            sumFrom[k] = things;
            if (receiver[k] == NONE || !readSum(in)) {
                return false;
            }
            sumTo[k] = things;
            relation[k] = ALWAYS;
            if (in.isWord("when")) {
                in.advance();
                if (!readSum(in)) {
                    return false;
                }
                leftTo[k] = things;
                if (!in.isSign('<') && !in.isSign('>')) {
                    return in.refuse();
                }
                relation[k] = in.sign;
                in.advance();
                if (!readSum(in)) {
                    return false;
                }
                rightTo[k] = things;
            }
            return in.needSign(';');
        }

        private boolean readSum(Reader in) {
            char ahead = '+';
            for (int n = 0; n <= MOST_THINGS; n++) {
                if (!readThing(in, ahead)) {
                    return false;
                }
                if (!in.isSign('+') && !in.isSign('-') && !in.isSign('*') && !in.isSign('/')) {
                    return true;
                }
                ahead = in.sign;
                in.advance();
            }
            return in.refuse();
        }

        private boolean readThing(Reader in, char ahead) {
            int its = thingHere(in);
            if (its == NONE || things >= MOST_THINGS) {
                return in.refuse();
            }
            int itsValue = 0;
            if (its == NUMBER) {
                itsValue = in.needNumber(0, MOST_SUM - 1);
            } else {
                in.advance();
                if (its == CAPITAL || its == SHARE) {
                    itsValue = in.needPartner();
                }
            }
            if (itsValue == NONE) {
                return false;
            }
            kind[things] = its;
            value[things] = itsValue;
            operator[things] = ahead;
            things++;
            return true;
        }

        private static int thingHere(Reader in) {
            if (in.isNumber()) {
                return NUMBER;
            }
            if (in.isWord("result")) {
                return RESULT;
            }
            if (in.isWord("cash")) {
                return CASH;
            }
            if (in.isWord("held")) {
                return HELD;
            }
            if (in.isWord("year")) {
                return YEAR;
            }
            if (in.isWord("net")) {
                return NET;
            }
            if (in.isWord("capital")) {
                return CAPITAL;
            }
            return in.isWord("share") ? SHARE : NONE;
        }
    }

    /** A text's acts, and what the latest acts that were well did. */
    private static final class Batch {
        int done;
        int endedBy = NONE;
        final int[] rows = new int[MOST_ACTS];
        final int[] kind = new int[MOST_ACTS];
        final int[] who = new int[MOST_ACTS];
        final int[] sum = new int[MOST_ACTS];

        void startRows() {
            done = 0;
            endedBy = NONE;
        }

        void addRow(int told) {
            if (done < MOST_ACTS) {
                rows[done] = told;
                done++;
            }
        }

        /** How many acts the text tells, or NONE. */
        int readActs(Reader in) {
            in.start();
            int count = 0;
            for (int k = 0; k < MOST_ACTS && !in.isAtEnd(); k++) {
                if (!readAct(in, k)) {
                    return NONE;
                }
                count++;
            }
            return in.needEnd() ? count : NONE;
        }

        private boolean readAct(Reader in, int k) {
            kind[k] = actHere(in);
            who[k] = 0;
            sum[k] = 0;
            if (kind[k] == NONE) {
                return in.refuse();
            }
            in.advance();
            return readWho(in, k) && readAmount(in, k) && in.needSign(';');
        }

        private boolean readWho(Reader in, int k) {
            switch (kind[k]) {
                case CLOSE:
                case EARN:
                    return true;
                case LOSE:
                case BORROW:
                case REPAY:
                case MARKET:
                    who[k] = in.needNumber(0, EIGHT - 1);
                    return who[k] != NONE;
                default:
                    who[k] = in.needPartner();
                    return who[k] != NONE;
            }
        }

        private boolean readAmount(Reader in, int k) {
            if (kind[k] == CLOSE || kind[k] == GO) {
                return true;
            }
            boolean isLess = kind[k] == EARN && in.isSign('-');
            if (isLess) {
                in.advance();
            }
            int n = in.needNumber(0, MOST_SUM);
            sum[k] = isLess ? -n : n;
            return n != NONE;
        }

        private static int actHere(Reader in) {
            if (in.isWord("close")) {
                return CLOSE;
            }
            if (in.isWord("earn")) {
                return EARN;
            }
            if (in.isWord("lose")) {
                return LOSE;
            }
            if (in.isWord("borrow")) {
                return BORROW;
            }
            if (in.isWord("repay")) {
                return REPAY;
            }
            if (in.isWord("market")) {
                return MARKET;
            }
            if (in.isWord("pay")) {
                return PAY;
            }
            if (in.isWord("draw")) {
                return DRAW;
            }
            if (in.isWord("come")) {
                return COME;
            }
            return in.isWord("go") ? GO : NONE;
        }
    }

    /** The tape, and a reader of its tokens that notes the place of the first one that can't stand there. */
    private static final class Reader {
        static final int AT_END = 0;
        static final int WORD = 1;
        static final int NUMBER = 2;
        static final int SIGN = 3;
        static final int TOO_MUCH = 100000000;

        final int[] bytes = new int[MOST_BYTES];
        int length;
        int faultPlace;
        char sign;
        private int at;
        private int from;
        private int kind;
        private int value;

        void addFour(int four) {
            for (int shift = 24; shift >= 0 && length < MOST_BYTES; shift -= 8) {
                bytes[length] = four >> shift & 255;
                length++;
            }
        }

        void start() {
            at = 0;
            faultPlace = NONE;
            advance();
        }

        /** Goes on to the next token; what is no token comes as a sign that nobody asks for. */
        void advance() {
            while (at < length && bytes[at] == ' ') {
                at++;
            }
            from = at;
            if (at >= length) {
                kind = AT_END;
            } else if (bytes[at] >= 'a' && bytes[at] <= 'z') {
                kind = WORD;
                while (at < length && bytes[at] >= 'a' && bytes[at] <= 'z') {
                    at++;
                }
            } else if (bytes[at] >= '0' && bytes[at] <= '9') {
                kind = NUMBER;
                value = 0;
                while (at < length && bytes[at] >= '0' && bytes[at] <= '9') {
                    value = value < TOO_MUCH ? value * 10 + bytes[at] - '0' : TOO_MUCH;
                    at++;
                }
            } else {
                kind = SIGN;
                sign = (char) bytes[at];
                at++;
            }
        }

        boolean isAtEnd() {
            return kind == AT_END;
        }

        boolean isNumber() {
            return kind == NUMBER;
        }

        boolean isSign(char c) {
            return kind == SIGN && sign == c;
        }

        boolean isWord(String word) {
            if (kind != WORD || at - from != word.length()) {
                return false;
            }
            for (int k = 0; k < word.length(); k++) {
                if (bytes[from + k] != word.charAt(k)) {
                    return false;
                }
            }
            return true;
        }

        int partnerHere() {
            boolean isOne = kind == WORD && at - from == 1 && bytes[from] <= 'h';
            return isOne ? bytes[from] - 'a' : NONE;
        }

        /** Always false, so that who reads can hand it on. */
        boolean refuse() {
            faultPlace = from;
            return false;
        }

        boolean needEnd() {
            return kind == AT_END || refuse();
        }

        boolean needWord(String word) {
            if (!isWord(word)) {
                return refuse();
            }
            advance();
            return true;
        }

        boolean needSign(char c) {
            if (!isSign(c)) {
                return refuse();
            }
            advance();
            return true;
        }

        int needPartner() {
            int p = partnerHere();
            if (p == NONE) {
                refuse();
            } else {
                advance();
            }
            return p;
        }

        int needNumber(int least, int most) {
            if (kind != NUMBER || value < least || value > most) {
                refuse();
                return NONE;
            }
            int n = value;
            advance();
            return n;
        }
    }

    /** Where sums are dealt; its rows are used again by each call. */
    private static final class Desk {
        final int[] given = new int[EIGHT];
        final int[] gaps = new int[EIGHT];
        int tiersFilled;
        int leftForLast;
        private final int[] weights = new int[EIGHT];
        private final int[] parts = new int[EIGHT];
        private final int[] losses = new int[EIGHT];
        private final int[] rooms = new int[EIGHT];

        /** Deals a sum into the parts; without a sum, or a weight above 0, they are all 0. */
        private void deal(int sum, int[] by) {
            Arrays.fill(parts, 0);
            long all = 0;
            for (int k = 0; k < EIGHT && sum > 0; k++) {
                all += Math.max(0, by[k]);
            }
            if (all <= 0) {
                return;
            }
            int left = sum;
            for (int k = 0; k < EIGHT; k++) {
                parts[k] = (int) ((long) sum * Math.max(0, by[k]) / all);
                left -= parts[k];
            }
            for (int k = 0; k < EIGHT && left > 0; k++) {
                if (by[k] > 0) {
                    parts[k]++;
                    left--;
                }
            }
        }

        private void weighEvenly(int among) {
            for (int p = 0; p < EIGHT; p++) {
                weights[p] = among >> p & 1;
            }
        }

        private void dealByRatio(int sum, int[] ratio, int among) {
            boolean hasWeight = false;
            for (int p = 0; p < EIGHT; p++) {
                weights[p] = (among >> p & 1) == 0 ? 0 : ratio[p];
                hasWeight |= weights[p] > 0;
            }
            if (!hasWeight) {
                weighEvenly(among);
            }
            deal(sum, weights);
        }

        /** Whether the tier has a weight of one there. */
        private boolean weighByTier(Tiers t, int k, int among) {
            boolean hasWeight = false;
            for (int p = 0; p < EIGHT; p++) {
                weights[p] = (among >> p & 1) == 0 ? 0 : t.weights[k * EIGHT + p];
                hasWeight |= weights[p] > 0;
            }
            return hasWeight;
        }

        void sellAll(int n, Books b, Tiers t) {
            Arrays.fill(given, 0);
            tiersFilled = 0;
            int left = n;
            for (int k = 0; k < t.count - 1 && left > 0; k++) {
                if (weighByTier(t, k, b.partners)) {
                    int sum = Math.min(left, t.sums[k]);
                    deal(sum, weights);
                    addAll(given, parts);
                    left -= sum;
                    tiersFilled++;
                }
            }
            leftForLast = left;
            if (left == 0) {
                return;
            }
            if (!weighByTier(t, t.count - 1, b.partners)) {
                weighEvenly(b.partners);
            }
            if (left > 0) {
                deal(left, weights);
                addAll(given, parts);
                tiersFilled++;
            } else {
                deal(-left, weights);
                takeAll(given, parts);
            }
        }

        void measureGaps(Books b, Tiers t, int result) {
            sellAll(total(b.capital) + result, b, t);
            for (int p = 0; p < EIGHT; p++) {
                gaps[p] = given[p] - b.capital[p];
            }
        }

        int closeYear(Books b, Tiers t, Specials s, Steps told) {
            told.startAnew();
            int held = b.held();
            int rise = held - b.closedHeld;
            chargeBack(b, -rise, told);
            takeDebtLoss(b, rise, told);
            cure(b, told);
            giveSpecials(b, s, told);
            shareOut(b.result, b, t, told);
            b.result = 0;
            b.closedHeld = held;
            b.year++;
            return b.year;
        }

        private void chargeBack(Books b, int fall, Steps told) {
            int less = Math.min(fall, total(b.share));
            if (less > 0) {
                deal(less, b.share);
                takeAll(b.share, parts);
                addAll(b.owed, parts);
                told.putRow(SHARE_LESS, parts);
            }
            int sum = Math.min(b.result, total(b.owed));
            if (sum > 0) {
                deal(sum, b.owed);
                addAll(b.capital, parts);
                takeAll(b.owed, parts);
                b.result -= sum;
                told.putRow(CHARGED, parts);
            }
        }

        private void takeDebtLoss(Books b, int rise, Steps told) {
            int sum = Math.min(rise, -b.result);
            if (sum > 0) {
                dealByRatio(sum, b.ratio, b.partners);
                takeAll(b.capital, parts);
                addAll(b.share, parts);
                b.result += sum;
                told.putRow(DEBT_LOSS, parts);
            }
        }

        private void cure(Books b, Steps told) {
            if (b.result <= 0) {
                return;
            }
            for (int p = 0; p < EIGHT; p++) {
                weights[p] = b.hasPartner(p) ? Math.max(0, b.floorOf(p) - b.capital[p]) : 0;
            }
            int sum = Math.min(b.result, total(weights));
            if (sum > 0) {
                deal(sum, weights);
                addAll(b.capital, parts);
                b.result -= sum;
                told.putRow(CURED, parts);
            }
        }

        private void giveSpecials(Books b, Specials s, Steps told) {
            Arrays.fill(parts, 0);
            for (int k = 0; k < s.count; k++) {
                int gift = s.gift(k, b);
                if (gift > 0) {
                    int p = s.receiver[k];
                    b.capital[p] += gift;
                    b.result -= gift;
                    parts[p] += gift;
                }
            }
            told.putRow(BY_SPECIALS, parts);
        }

        /** Shares a result out by the targets, within the limits of losses. */
        private void shareOut(int result, Books b, Tiers t, Steps told) {
            if (result == 0) {
                return;
            }
            measureGaps(b, t, result);
            for (int p = 0; p < EIGHT; p++) {
                weights[p] = Math.max(0, result > 0 ? gaps[p] : -gaps[p]);
            }
            deal(Math.abs(result), weights);
            if (result > 0) {
                addAll(b.capital, parts);
                told.putRow(BY_TARGETS, parts);
                told.putRow(BEHIND_LIMITS, parts);
                return;
            }
            copyEight(parts, losses);
            putLosses(BY_TARGETS, told);
            told.leftover = limitLosses(b);
            putLosses(BEHIND_LIMITS, told);
            takeAll(b.capital, losses);
        }

        private void putLosses(int what, Steps told) {
            Arrays.fill(parts, 0);
            takeAll(parts, losses);
            told.putRow(what, parts);
        }

        /** Keeps each loss within its room; answers what no room was found for. */
        private int limitLosses(Books b) {
            for (int p = 0; p < EIGHT; p++) {
                rooms[p] = b.hasPartner(p) ? Math.max(0, b.capital[p] - b.floorOf(p)) : 0;
            }
            // Each round fills the room of one partner more at the least.
            for (int round = 0; round <= EIGHT; round++) {
                int above = cutToRooms();
                if (above == 0) {
                    return 0;
                }
                int among = withRoomLeft(b);
                if (among == 0) {
                    addToFirst(b, above);
                    return above;
                }
                dealByRatio(above, b.ratio, among);
                addAll(losses, parts);
            }
            return 0;
        }

        private int cutToRooms() {
            int above = 0;
            for (int p = 0; p < EIGHT; p++) {
                if (losses[p] > rooms[p]) {
                    above += losses[p] - rooms[p];
                    losses[p] = rooms[p];
                }
            }
            return above;
        }

        private int withRoomLeft(Books b) {
            int among = 0;
            for (int p = 0; p < EIGHT; p++) {
                if (b.hasPartner(p) && losses[p] < rooms[p]) {
                    among |= 1 << p;
                }
            }
            return among;
        }

        private void addToFirst(Books b, int above) {
            for (int p = 0; p < EIGHT; p++) {
                if (b.hasPartner(p)) {
                    losses[p] += above;
                    return;
                }
            }
        }

        /** Each book becomes its market; answers by how much all are more. */
        int valueAnew(Books b, Tiers t, Steps told) {
            int more = b.gainOfAll();
            copyEight(b.market, b.book);
            told.startAnew();
            if (b.partners != 0) {
                shareOut(more, b, t, told);
            }
            return more;
        }

        /** Behind all being valued anew: answers what he has from cash. */
        int letOut(int p, Books b) {
            int has = Math.max(b.capital[p], -b.duty[p]);
            int missing = has - b.capital[p];
            int share = b.share[p];
            int owed = b.owed[p];
            b.cash -= has;
            b.dismiss(p);
            dealByRatio(missing, b.ratio, b.partners);
            takeAll(b.capital, parts);
            dealByRatio(share, b.ratio, b.partners);
            addAll(b.share, parts);
            dealByRatio(owed, b.ratio, b.partners);
            addAll(b.owed, parts);
            return has;
        }
    }

    /** The bytes that were written latest. */
    private static final class Statement {
        static final int MOST = 400;

        int length;
        final int[] bytes = new int[MOST];

        void addSign(char c) {
            if (length < MOST) {
                bytes[length] = c;
                length++;
            }
        }

        void addNumber(int n) {
            long rest = Math.abs((long) n);
            if (n < 0) {
                addSign('-');
            }
            long place = 1;
            for (int k = 0; k < 10 && place * 10 <= rest; k++) {
                place *= 10;
            }
            for (int k = 0; k <= 10 && place > 0; k++) {
                addSign((char) ('0' + rest / place % 10));
                place /= 10;
            }
        }
    }
}
