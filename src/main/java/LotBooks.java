import java.util.Arrays;

/** Books in which several commodities are kept, as ../shared/DOC.md promises them. */
public final class LotBooks {
    public static final int NONE = -1;
    public static final int FIFO = 0, LIFO = 1, AVERAGE = 2;
    public static final int DONE = 0, NO_DRAFT = 1, SHORT = 2, UNBALANCED = 3, LATER = 4;

    private static final int ASSET = 0, EQUITY = 2, INCOME = 3, EXPENSE = 4;
    private static final int ROOTS = 5;
    private static final int UNREALISED = 5, RETAINED = 6;
    private static final int CURRENCY = 0, LAST_COMMODITY = 4;
    private static final int LAST_DAY = 9999;
    private static final int MOST_ACCOUNTS = 24;
    private static final int MOST_TRANSACTIONS = 40;
    private static final int MOST_POSTINGS = 6;
    private static final int MOST_PRICES = 30;
    private static final int MOST_CHECKS = 10;
    private static final int MOST_CLOSINGS = 8;
    private static final int MOST_MONEY = 1000000;
    private static final int MOST_QUANTITY = 1000;
    private static final int HIGHEST_PRICE = 10000;
    private static final int GREATEST_UNIT = 1000000;

    private final Accounts accounts = new Accounts();
    private final Prices prices = new Prices();
    private final Checks checks = new Checks();
    private final Closings closings = new Closings();
    private final Statement statement = new Statement();
    private Journal journal = new Journal();
    /** A draft is tried here first, so that a refused one leaves the journal as it was. */
    private Journal trial = new Journal();
    /** Null while there is no draft. */
    private Transaction draft = null;

    public LotBooks() {
    }

    public int open(int parent, int day) {
        if (!accounts.has(parent) || !isDay(day) || accounts.size >= MOST_ACCOUNTS) {
            return NONE;
        }
        return accounts.add(parent, accounts.kinds[parent], day);
    }

    public boolean begin(int day) {
        if (draft != null || !isOpenDay(day) || journal.size >= MOST_TRANSACTIONS) {
            return false;
        }
        draft = new Transaction(day);
        return true;
    }

    public boolean money(int account, int amount) {
        if (!canPost(account) || amount == 0 || !isWithin(amount, -MOST_MONEY, MOST_MONEY)) {
            return false;
        }
        draft.add(new Posting(Posting.MONEY, account, CURRENCY, 0, amount));
        return true;
    }

    public boolean acquire(int account, int commodity, int quantity, int cost) {
        if (!canPostLots(account, commodity, quantity) || !isWithin(cost, 0, MOST_MONEY)) {
            return false;
        }
        draft.add(new Posting(Posting.ACQUIRE, account, commodity, quantity, cost));
        return true;
    }

    public boolean release(int account, int commodity, int quantity, int how) {
        if (!canPostLots(account, commodity, quantity) || !isWithin(how, FIFO, AVERAGE)) {
            return false;
        }
        draft.add(new Posting(Posting.RELEASE, account, commodity, quantity, how));
        return true;
    }

    public boolean rest(int account) {
        if (!canPost(account) || draft.hasRest()) {
            return false;
        }
        draft.add(new Posting(Posting.REST, account, CURRENCY, 0, 0));
        return true;
    }

    public int commit() {
        if (draft == null) {
            return NO_DRAFT;
        }
        // Behind all of its own day, for it is the last of them to be committed.
        int place = journal.countUpTo(draft.day);
        trial.copyWith(journal, draft, place);
        int outcome = trial.bookAll(place);
        if (outcome == DONE && !checks.allHold(trial, accounts)) {
            outcome = LATER;
        }
        if (outcome == DONE) {
            Journal old = journal;
            journal = trial;
            trial = old;
            draft = null;
        }
        return outcome;
    }

    public boolean drop() {
        if (draft == null) {
            return false;
        }
        draft = null;
        return true;
    }

    public int count() {
        return journal.size;
    }

    public int weight(int n, int k) {
        return journal.hasPosting(n, k) ? journal.weightAt(n, k) : 0;
    }

    public boolean price(int commodity, int day, int p) {
        if (!isCommodity(commodity) || !isOpenDay(day) || !isWithin(p, 0, HIGHEST_PRICE)) {
            return false;
        }
        return prices.put(commodity, day, p);
    }

    public int priceOn(int commodity, int day) {
        return prices.thatHolds(commodity, day);
    }

    public boolean check(int account, int day, int amount) {
        if (!accounts.has(account) || !isDay(day) || checks.size >= MOST_CHECKS) {
            return false;
        }
        if (journal.posted(accounts, account, day) != amount) {
            return false;
        }
        checks.add(account, day, amount);
        return true;
    }

    public boolean close(int day) {
        if (draft != null || !isOpenDay(day) || closings.size >= MOST_CLOSINGS) {
            return false;
        }
        Closing closing = new Closing(day);
        revalue(closing);
        carryToRetained(closing);
        closings.add(closing);
        return true;
    }

    public boolean reopen() {
        if (draft != null || closings.size == 0) {
            return false;
        }
        closings.removeLatest();
        return true;
    }

    public long profit(int k) {
        return isWithin(k, 0, closings.size - 1) ? closings.rows[k].gain : 0;
    }

    public long balance(int account, int day) {
        if (!accounts.has(account)) {
            return 0;
        }
        statement.draw(accounts, journal, closings, day);
        return statement.whole[account];
    }

    public int quantity(int account, int commodity, int day) {
        if (!accounts.has(account) || !isCommodity(commodity)) {
            return 0;
        }
        return journal.held(accounts, account, commodity, day);
    }

    public long lot(int account, int commodity, int k) {
        return journal.lots.packed(account, commodity, k);
    }

    public long printed(int account, int day, int u) {
        if (!accounts.has(account) || !isWithin(u, 1, GREATEST_UNIT)) {
            return 0;
        }
        statement.draw(accounts, journal, closings, day);
        statement.print(accounts, u);
        return statement.shown[account];
    }

    private static boolean isWithin(int value, int least, int most) {
        return least <= value && value <= most;
    }

    private static boolean isDay(int day) {
        return isWithin(day, 0, LAST_DAY);
    }

    private static boolean isCommodity(int commodity) {
        return isWithin(commodity, CURRENCY + 1, LAST_COMMODITY);
    }

    private boolean isOpenDay(int day) {
        return isDay(day) && day > closings.latestDay();
    }

    private boolean canPost(int account) {
        return draft != null && !draft.isFull() && accounts.has(account)
                && accounts.usableFrom[account] <= draft.day;
    }

    private boolean canPostLots(int account, int commodity, int quantity) {
        return canPost(account) && accounts.kinds[account] == ASSET
                && isCommodity(commodity) && isWithin(quantity, 1, MOST_QUANTITY);
    }

    /** The first step of a closing. */
    private void revalue(Closing closing) {
        journal.addAdjustments(closing.adjustments, prices, closing.day);
        for (int a = 0; a < accounts.size; a++) {
            long growth = closing.adjustments[a] - closings.latestAdjustment(a);
            closing.added[a] += growth;
            closing.added[UNREALISED] -= growth;
        }
    }

    /** The second step of a closing, which takes up what the first one added. */
    private void carryToRetained(Closing closing) {
        statement.draw(accounts, journal, closings, closing.day);
        for (int a = 0; a < accounts.size; a++) {
            if (accounts.kinds[a] == INCOME || accounts.kinds[a] == EXPENSE) {
                long sum = statement.own[a] + closing.added[a];
                closing.added[a] -= sum;
                closing.added[RETAINED] += sum;
                closing.gain -= sum;
            }
        }
    }

    /** The accounts by their numbers; a parent's number is always smaller than its child's. */
    private static final class Accounts {
        final int[] parents = new int[MOST_ACCOUNTS];
        final int[] kinds = new int[MOST_ACCOUNTS];
        final int[] usableFrom = new int[MOST_ACCOUNTS];
        int size = 0;

        Accounts() {
            for (int root = 0; root < ROOTS; root++) {
                add(NONE, root, 0);
            }
            add(INCOME, INCOME, 0);
            add(EQUITY, EQUITY, 0);
        }

        int add(int parent, int kind, int day) {
            int account = size;
            parents[account] = parent;
            kinds[account] = kind;
            usableFrom[account] = day;
            size++;
            return account;
        }

        boolean has(int account) {
            return 0 <= account && account < size;
        }

        /** Whether an account is the top one or below it. */
        boolean isUnder(int account, int top) {
            int at = account;
            for (int steps = 0; steps < MOST_ACCOUNTS && at > top; steps++) {
                at = parents[at];
            }
            return at == top;
        }
    }

    /** One posting as it was added; its weight is the journal's, for it depends on the place. */
    private static final class Posting {
        static final int MONEY = 0, ACQUIRE = 1, RELEASE = 2, REST = 3;

        final int kind;
        final int account;
        final int commodity;
        final int quantity;
        /** The amount of MONEY, the cost of ACQUIRE, the way of RELEASE. */
        final int detail;

        Posting(int kind, int account, int commodity, int quantity, int detail) {
            this.kind = kind;
            this.account = account;
            this.commodity = commodity;
            this.quantity = quantity;
            this.detail = detail;
        }

        /** What the posting changes in the quantity that its account holds. */
        int change() {
            return kind == RELEASE ? -quantity : quantity;
        }
    }

    private static final class Transaction {
        final int day;
        final Posting[] postings = new Posting[MOST_POSTINGS];
        int size = 0;

        Transaction(int day) {
            this.day = day;
        }

        boolean isFull() {
            return size >= MOST_POSTINGS;
        }

        boolean hasRest() {
            for (int k = 0; k < size; k++) {
                if (postings[k].kind == Posting.REST) {
                    return true;
                }
            }
            return false;
        }

        void add(Posting posting) {
            postings[size] = posting;
            size++;
        }
    }

    /**
     * All lots in the order in which they came to be; one without quantity is gone. There is room
     * for a lot of every posting that the journal can have.
     */
    private static final class Lots {
        static final int MOST_LOTS = MOST_TRANSACTIONS * MOST_POSTINGS;
        static final long QUANTITY_PLACE = 4294967296L;

        final int[] accounts = new int[MOST_LOTS];
        final int[] commodities = new int[MOST_LOTS];
        final int[] quantities = new int[MOST_LOTS];
        final int[] costs = new int[MOST_LOTS];
        int size = 0;

        void clear() {
            size = 0;
        }

        void add(int account, int commodity, int quantity, int cost) {
            accounts[size] = account;
            commodities[size] = commodity;
            quantities[size] = quantity;
            costs[size] = cost;
            size++;
        }

        /** The quantity that all lots of an account and a commodity have together. */
        int sumOf(int account, int commodity) {
            int sum = 0;
            for (int at = 0; at < size; at++) {
                if (isThere(at, account, commodity)) {
                    sum += quantities[at];
                }
            }
            return sum;
        }

        /** Takes a quantity, or all when there is less, in a stated order: the cost taken. */
        int take(int account, int commodity, int quantity, int how) {
            if (how == AVERAGE) {
                merge(account, commodity);
            }
            int left = quantity;
            int cost = 0;
            for (int i = 0; i < size && left > 0; i++) {
                int at = how == LIFO ? size - 1 - i : i;
                if (isThere(at, account, commodity)) {
                    int part = Math.min(left, quantities[at]);
                    cost += takeFrom(at, part);
                    left -= part;
                }
            }
            return cost;
        }

        /** Lot k of those that are left, as the document packs it; NONE when there is none. */
        long packed(int account, int commodity, int k) {
            int before = 0;
            for (int at = 0; at < size; at++) {
                if (isThere(at, account, commodity)) {
                    if (before == k) {
                        return quantities[at] * QUANTITY_PLACE + costs[at];
                    }
                    before++;
                }
            }
            return NONE;
        }

        private boolean isThere(int at, int account, int commodity) {
            return quantities[at] > 0 && accounts[at] == account && commodities[at] == commodity;
        }

        private void merge(int account, int commodity) {
            int into = NONE;
            for (int at = 0; at < size; at++) {
                if (isThere(at, account, commodity)) {
                    if (into == NONE) {
                        into = at;
                    } else {
                        quantities[into] += quantities[at];
                        costs[into] += costs[at];
                        quantities[at] = 0;
                    }
                }
            }
        }

        /** Takes a part, or the whole, of a lot that is there: the cost taken. */
        private int takeFrom(int at, int part) {
            int cost = (int) ((long) costs[at] * part / quantities[at]);
            quantities[at] -= part;
            costs[at] -= cost;
            return cost;
        }
    }

    /** Transactions in their order, and what their booking gives: the weights and the lots. */
    private static final class Journal {
        final Transaction[] transactions = new Transaction[MOST_TRANSACTIONS];
        final int[] weights = new int[MOST_TRANSACTIONS * MOST_POSTINGS];
        final Lots lots = new Lots();
        int size = 0;

        boolean hasPosting(int n, int k) {
            return 0 <= n && n < size && 0 <= k && k < transactions[n].size;
        }

        int weightAt(int n, int k) {
            return weights[n * MOST_POSTINGS + k];
        }

        /** How many transactions are of days up to a day; they are the first ones. */
        int countUpTo(int day) {
            int n = 0;
            while (n < size && transactions[n].day <= day) {
                n++;
            }
            return n;
        }

        /**
         * Holds the other's transactions and a new one in its place, not yet booked. There is room
         * for it: no draft is begun when the journal is full.
         */
        void copyWith(Journal other, Transaction added, int place) {
            for (int n = 0; n < place; n++) {
                transactions[n] = other.transactions[n];
            }
            transactions[place] = added;
            for (int n = place; n < other.size; n++) {
                transactions[n + 1] = other.transactions[n];
            }
            size = other.size + 1;
        }

        /** Books all; the answer of commit, as far as booking tells it, to a draft in a place. */
        int bookAll(int place) {
            lots.clear();
            for (int n = 0; n < size; n++) {
                int outcome = bookOne(n);
                if (outcome != DONE) {
                    return n == place ? outcome : LATER;
                }
            }
            return DONE;
        }

        private int bookOne(int n) {
            Transaction transaction = transactions[n];
            int first = n * MOST_POSTINGS;
            int sum = 0;
            int restAt = NONE;
            for (int k = 0; k < transaction.size; k++) {
                Posting posting = transaction.postings[k];
                if (isShort(posting)) {
                    return SHORT;
                }
                weights[first + k] = bookPosting(posting);
                sum += weights[first + k];
                if (posting.kind == Posting.REST) {
                    restAt = first + k;
                }
            }
            if (restAt != NONE) {
                weights[restAt] = -sum;
                return DONE;
            }
            return sum == 0 ? DONE : UNBALANCED;
        }

        private boolean isShort(Posting posting) {
            return posting.kind == Posting.RELEASE
                    && lots.sumOf(posting.account, posting.commodity) < posting.quantity;
        }

        /** Changes the lots as a posting that is not short asks: its weight, of REST as yet 0. */
        private int bookPosting(Posting posting) {
            switch (posting.kind) {
                case Posting.ACQUIRE:
                    lots.add(posting.account, posting.commodity, posting.quantity, posting.detail);
                    return posting.detail;
                case Posting.RELEASE:
                    return -lots.take(posting.account, posting.commodity, posting.quantity,
                            posting.detail);
                default:
                    return posting.detail;
            }
        }

        /** What is posted of an account, with those below it, and a day. */
        long posted(Accounts accounts, int account, int day) {
            long sum = 0;
            int end = countUpTo(day);
            for (int n = 0; n < end; n++) {
                for (int k = 0; k < transactions[n].size; k++) {
                    if (accounts.isUnder(transactions[n].postings[k].account, account)) {
                        sum += weightAt(n, k);
                    }
                }
            }
            return sum;
        }

        /** What an account and those below it hold of a commodity on a day. */
        int held(Accounts accounts, int account, int commodity, int day) {
            int sum = 0;
            int end = countUpTo(day);
            for (int n = 0; n < end; n++) {
                for (int k = 0; k < transactions[n].size; k++) {
                    Posting posting = transactions[n].postings[k];
                    if (posting.commodity == commodity
                            && accounts.isUnder(posting.account, account)) {
                        sum += posting.change();
                    }
                }
            }
            return sum;
        }

        /** Adds the weights of each account's own postings up to a day. */
        void addOwnWeights(long[] sums, int day) {
            int end = countUpTo(day);
            for (int n = 0; n < end; n++) {
                for (int k = 0; k < transactions[n].size; k++) {
                    sums[transactions[n].postings[k].account] += weightAt(n, k);
                }
            }
        }

        /**
         * Adds up each account's adjustments on a day. Worth less cost of what is held is the sum
         * of worth less cost over the postings, so no row for each commodity is needed.
         */
        void addAdjustments(long[] sums, Prices prices, int day) {
            int end = countUpTo(day);
            for (int n = 0; n < end; n++) {
                for (int k = 0; k < transactions[n].size; k++) {
                    Posting posting = transactions[n].postings[k];
                    int p = prices.thatHolds(posting.commodity, day);
                    if (p != NONE) {
                        sums[posting.account] += (long) posting.change() * p - weightAt(n, k);
                    }
                }
            }
        }
    }

    /** The currency has no price, so that MONEY and REST find none that holds. */
    private static final class Prices {
        final int[] commodities = new int[MOST_PRICES];
        final int[] days = new int[MOST_PRICES];
        final int[] values = new int[MOST_PRICES];
        int size = 0;

        /** Sets the price of a commodity on a day; false when there is no room for it. */
        boolean put(int commodity, int day, int value) {
            int at = latestUpTo(commodity, day);
            if (at == NONE || days[at] != day) {
                if (size >= MOST_PRICES) {
                    return false;
                }
                at = size;
                commodities[at] = commodity;
                days[at] = day;
                size++;
            }
            values[at] = value;
            return true;
        }

        int thatHolds(int commodity, int day) {
            int at = latestUpTo(commodity, day);
            return at == NONE ? NONE : values[at];
        }

        private int latestUpTo(int commodity, int day) {
            int latest = NONE;
            for (int at = 0; at < size; at++) {
                if (commodities[at] == commodity && days[at] <= day
                        && (latest == NONE || days[at] > days[latest])) {
                    latest = at;
                }
            }
            return latest;
        }
    }

    private static final class Checks {
        final int[] accounts = new int[MOST_CHECKS];
        final int[] days = new int[MOST_CHECKS];
        final int[] amounts = new int[MOST_CHECKS];
        int size = 0;

        void add(int account, int day, int amount) {
            accounts[size] = account;
            days[size] = day;
            amounts[size] = amount;
            size++;
        }

        boolean allHold(Journal journal, Accounts tree) {
            for (int at = 0; at < size; at++) {
                if (journal.posted(tree, accounts[at], days[at]) != amounts[at]) {
                    return false;
                }
            }
            return true;
        }
    }

    /** What one closing has worked out, by the accounts' numbers. */
    private static final class Closing {
        final int day;
        /** The sums of each account's adjustments over the commodities. */
        final long[] adjustments = new long[MOST_ACCOUNTS];
        final long[] added = new long[MOST_ACCOUNTS];
        long gain = 0;

        Closing(int day) {
            this.day = day;
        }
    }

    /** The closings that stand, the earliest first. */
    private static final class Closings {
        final Closing[] rows = new Closing[MOST_CLOSINGS];
        int size = 0;

        void add(Closing closing) {
            rows[size] = closing;
            size++;
        }

        void removeLatest() {
            size--;
            rows[size] = null;
        }

        /** The latest closing's day; before the first closing a day before all days. */
        int latestDay() {
            return size == 0 ? NONE : rows[size - 1].day;
        }

        long latestAdjustment(int account) {
            return size == 0 ? 0 : rows[size - 1].adjustments[account];
        }

        /** Adds what closings of days up to a day have added to each account. */
        void addTo(long[] sums, int day) {
            for (int at = 0; at < size && rows[at].day <= day; at++) {
                for (int a = 0; a < MOST_ACCOUNTS; a++) {
                    sums[a] += rows[at].added[a];
                }
            }
        }
    }

    /** The balances of one day, and what is printed for them; rows that each call uses again. */
    private static final class Statement {
        /** Balances without the accounts below. */
        final long[] own = new long[MOST_ACCOUNTS];
        /** Balances with the accounts below. */
        final long[] whole = new long[MOST_ACCOUNTS];
        final long[] shown = new long[MOST_ACCOUNTS];

        void draw(Accounts accounts, Journal journal, Closings closings, int day) {
            Arrays.fill(own, 0L);
            journal.addOwnWeights(own, day);
            closings.addTo(own, day);
            for (int a = 0; a < MOST_ACCOUNTS; a++) {
                whole[a] = own[a];
            }
            // From the last on, each account is whole before it is added to its parent.
            for (int a = accounts.size - 1; a >= ROOTS; a--) {
                whole[accounts.parents[a]] += whole[a];
            }
        }

        /** Works out what all accounts print, parents before their children. */
        void print(Accounts accounts, long u) {
            for (int a = 0; a < accounts.size; a++) {
                int more = printsOneMore(accounts, a, u) ? 1 : 0;
                shown[a] = Math.floorDiv(whole[a], u) + more;
            }
        }

        /** Whether an account is among the parts that make up what rounding down has lost. */
        private boolean printsOneMore(Accounts accounts, int account, long u) {
            int parent = accounts.parents[account];
            long remainder = Math.floorMod(whole[account], u);
            long lost = 0;
            int ahead = 0;
            if (parent != NONE) {
                lost = shown[parent] - Math.floorDiv(own[parent], u);
                if (Math.floorMod(own[parent], u) >= remainder) {
                    ahead++;
                }
            }
            for (int a = 0; a < accounts.size; a++) {
                if (accounts.parents[a] == parent) {
                    lost -= Math.floorDiv(whole[a], u);
                    long other = Math.floorMod(whole[a], u);
                    if (other > remainder || (other == remainder && a < account)) {
                        ahead++;
                    }
                }
            }
            return ahead < lost;
        }
    }
}
