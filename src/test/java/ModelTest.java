import java.util.ArrayList;
import java.util.HashMap;
import java.util.List;
import java.util.Map;
import java.util.Random;
import java.util.Set;
import java.util.TreeMap;
import java.util.TreeSet;

// Runs of calls, drawn from fixed seeds, on LotBooks and on a plain model that follows the document
// word by word and works everything out anew for each answer.
public final class ModelTest {
    private static final int RUNS = 1500;
    private static final int CALLS = 511;

    private record Posting(char kind, int account, int commodity, int quantity, int detail) { }

    private record Transaction(int day, List<Posting> postings) { }

    private record Holding(int account, int commodity) { }

    private record Lot(int quantity, long cost) { }

    private record Account(int parent, int kind, int day) { }

    private record Check(int account, int day, int amount) { }

    private record Closing(int day, Map<Holding, Long> adjustments, long[] added, long profit) { }

    private record Part(int account, long balance) { }

    /** What booking a list of transactions gives. */
    private static final class Booking {
        final List<List<Long>> weights = new ArrayList<>();
        final Map<Holding, List<Lot>> lots = new HashMap<>();
        int failedAt = -1;
        int failure = 0;

        Booking(List<Transaction> transactions) {
            for (int n = 0; n < transactions.size() && failure == 0; n++) {
                failure = book(transactions.get(n).postings());
                failedAt = failure == 0 ? -1 : n;
            }
        }

        private int book(List<Posting> postings) {
            List<Long> row = new ArrayList<>();
            long others = 0;
            int restAt = -1;
            for (Posting p : postings) {
                List<Lot> mine = lots.computeIfAbsent(new Holding(p.account(), p.commodity()), h -> new ArrayList<>());
                long w = 0;
                switch (p.kind()) {
                    case 'M' -> w = p.detail();
                    case 'A' -> {
                        mine.add(new Lot(p.quantity(), p.detail()));
                        w = p.detail();
                    }
                    case 'R' -> {
                        if (mine.stream().mapToInt(Lot::quantity).sum() < p.quantity()) {
                            return 2;
                        }
                        w = -release(mine, p.quantity(), p.detail());
                    }
                    default -> restAt = row.size();
                }
                row.add(w);
                others += w;
            }
            if (restAt >= 0) {
                row.set(restAt, -others);
            } else if (others != 0) {
                return 3;
            }
            weights.add(row);
            return 0;
        }

        private static long release(List<Lot> mine, int quantity, int how) {
            if (how == 2) {
                Lot one = new Lot(mine.stream().mapToInt(Lot::quantity).sum(),
                        mine.stream().mapToLong(Lot::cost).sum());
                mine.clear();
                mine.add(one);
            }
            long taken = 0;
            int left = quantity;
            while (left > 0) {
                int at = how == 1 ? mine.size() - 1 : 0;
                Lot lot = mine.get(at);
                if (lot.quantity() <= left) {
                    mine.remove(at);
                    taken += lot.cost();
                    left -= lot.quantity();
                } else {
                    long cost = lot.cost() * left / lot.quantity();
                    mine.set(at, new Lot(lot.quantity() - left, lot.cost() - cost));
                    taken += cost;
                    left = 0;
                }
            }
            return taken;
        }
    }

    private static final class Model {
        final List<Account> accounts = new ArrayList<>();
        List<Transaction> transactions = new ArrayList<>();
        Transaction draft = null;
        final List<Check> checks = new ArrayList<>();
        final Map<Integer, TreeMap<Integer, Integer>> prices = new TreeMap<>();
        final List<Closing> closings = new ArrayList<>();

        Model() {
            for (int root = 0; root < 5; root++) {
                accounts.add(new Account(-1, root, 0));
            }
            accounts.add(new Account(3, 3, 0));
            accounts.add(new Account(2, 2, 0));
            for (int c = 1; c <= 4; c++) {
                prices.put(c, new TreeMap<>());
            }
        }

        boolean there(int account) {
            return account >= 0 && account < accounts.size();
        }

        boolean day(int day) {
            return day >= 0 && day <= 9999;
        }

        boolean closed(int day) {
            return closings.stream().anyMatch(c -> day <= c.day());
        }

        boolean below(int account, int top) {
            int parent = accounts.get(account).parent();
            return parent == top || (parent >= 0 && below(parent, top));
        }

        boolean under(int account, int top) {
            return account == top || below(account, top);
        }

        int open(int parent, int day) {
            if (!there(parent) || !day(day) || accounts.size() == 24) {
                return -1;
            }
            accounts.add(new Account(parent, accounts.get(parent).kind(), day));
            return accounts.size() - 1;
        }

        boolean begin(int day) {
            if (draft != null || !day(day) || closed(day) || transactions.size() == 40) {
                return false;
            }
            draft = new Transaction(day, new ArrayList<>());
            return true;
        }

        boolean takes(int account) {
            return draft != null && draft.postings().size() < 6 && there(account)
                    && accounts.get(account).day() <= draft.day();
        }

        boolean takesLots(int account, int commodity, int quantity) {
            return takes(account) && accounts.get(account).kind() == 0 && commodity >= 1 && commodity <= 4
                    && quantity >= 1 && quantity <= 1000;
        }

        boolean add(boolean good, Posting p) {
            return good && draft.postings().add(p);
        }

        boolean money(int account, int amount) {
            return add(takes(account) && amount != 0 && amount >= -1000000 && amount <= 1000000,
                    new Posting('M', account, 0, 0, amount));
        }

        boolean acquire(int account, int commodity, int quantity, int cost) {
            return add(takesLots(account, commodity, quantity) && cost >= 0 && cost <= 1000000,
                    new Posting('A', account, commodity, quantity, cost));
        }

        boolean release(int account, int commodity, int quantity, int how) {
            return add(takesLots(account, commodity, quantity) && how >= 0 && how <= 2,
                    new Posting('R', account, commodity, quantity, how));
        }

        boolean rest(int account) {
            return add(takes(account) && draft.postings().stream().noneMatch(p -> p.kind() == 'T'),
                    new Posting('T', account, 0, 0, 0));
        }

        int commit() {
            if (draft == null) {
                return 1;
            }
            int place = (int) transactions.stream().filter(t -> t.day() <= draft.day()).count();
            List<Transaction> tried = new ArrayList<>(transactions);
            tried.add(place, draft);
            Booking booking = new Booking(tried);
            if (booking.failure != 0) {
                return booking.failedAt == place ? booking.failure : 4;
            }
            for (Check c : checks) {
                if (posted(tried, c.account(), c.day()) != c.amount()) {
                    return 4;
                }
            }
            transactions = tried;
            draft = null;
            return 0;
        }

        boolean drop() {
            boolean was = draft != null;
            draft = null;
            return was;
        }

        int weight(int n, int k) {
            List<List<Long>> weights = new Booking(transactions).weights;
            boolean is = n >= 0 && n < weights.size() && k >= 0 && k < weights.get(n).size();
            return is ? (int) (long) weights.get(n).get(k) : 0;
        }

        boolean price(int commodity, int day, int p) {
            if (commodity < 1 || commodity > 4 || !day(day) || closed(day) || p < 0 || p > 10000) {
                return false;
            }
            if (!prices.get(commodity).containsKey(day) && allPrices() == 30) {
                return false;
            }
            prices.get(commodity).put(day, p);
            return true;
        }

        int allPrices() {
            return prices.values().stream().mapToInt(Map::size).sum();
        }

        int priceOn(int commodity, int day) {
            TreeMap<Integer, Integer> row = prices.get(commodity);
            return row == null || row.floorEntry(day) == null ? -1 : row.floorEntry(day).getValue();
        }

        boolean check(int account, int day, int amount) {
            if (!there(account) || !day(day) || posted(transactions, account, day) != amount || checks.size() == 10) {
                return false;
            }
            return checks.add(new Check(account, day, amount));
        }

        long posted(List<Transaction> all, int account, int day) {
            long sum = 0;
            for (int a = 0; a < accounts.size(); a++) {
                sum += under(a, account) ? ownPosted(all, a, day) : 0;
            }
            return sum;
        }

        long ownPosted(List<Transaction> all, int account, int day) {
            List<List<Long>> weights = new Booking(all).weights;
            long sum = 0;
            for (int n = 0; n < all.size(); n++) {
                for (int k = 0; k < all.get(n).postings().size(); k++) {
                    if (all.get(n).day() <= day && all.get(n).postings().get(k).account() == account) {
                        sum += weights.get(n).get(k);
                    }
                }
            }
            return sum;
        }

        /** Quantity and cost of what an account itself holds. */
        long[] held(int account, int commodity, int day) {
            List<List<Long>> weights = new Booking(transactions).weights;
            long[] sum = new long[2];
            for (int n = 0; n < transactions.size(); n++) {
                for (int k = 0; k < transactions.get(n).postings().size(); k++) {
                    Posting p = transactions.get(n).postings().get(k);
                    boolean lots = p.kind() == 'A' || p.kind() == 'R';
                    if (lots && transactions.get(n).day() <= day && p.account() == account && p.commodity() == commodity) {
                        sum[0] += p.kind() == 'A' ? p.quantity() : -p.quantity();
                        sum[1] += weights.get(n).get(k);
                    }
                }
            }
            return sum;
        }

        boolean close(int day) {
            if (draft != null || !day(day) || closed(day) || closings.size() == 8) {
                return false;
            }
            Map<Holding, Long> adjustments = new HashMap<>();
            long[] added = new long[24];
            for (int a = 0; a < accounts.size(); a++) {
                for (int c = 1; c <= 4; c++) {
                    long[] held = held(a, c, day);
                    long now = priceOn(c, day) < 0 ? 0 : held[0] * priceOn(c, day) - held[1];
                    long before = closings.isEmpty() ? 0
                            : closings.get(closings.size() - 1).adjustments().getOrDefault(new Holding(a, c), 0L);
                    adjustments.put(new Holding(a, c), now);
                    added[a] += now - before;
                    added[5] -= now - before;
                }
            }
            long profit = 0;
            for (int a = 0; a < accounts.size(); a++) {
                if (accounts.get(a).kind() >= 3) {
                    long sum = ownPosted(transactions, a, day) + added[a];
                    for (Closing c : closings) {
                        sum += c.added()[a];
                    }
                    added[a] -= sum;
                    added[6] += sum;
                    profit -= sum;
                }
            }
            return closings.add(new Closing(day, adjustments, added, profit));
        }

        boolean reopen() {
            if (draft != null || closings.isEmpty()) {
                return false;
            }
            closings.remove(closings.size() - 1);
            return true;
        }

        long profit(int k) {
            return k >= 0 && k < closings.size() ? closings.get(k).profit() : 0;
        }

        long ownBalance(int account, int day) {
            long sum = ownPosted(transactions, account, day);
            for (Closing c : closings) {
                sum += c.day() <= day ? c.added()[account] : 0;
            }
            return sum;
        }

        long balance(int account, int day) {
            long sum = 0;
            for (int a = 0; a < accounts.size() && there(account); a++) {
                sum += under(a, account) ? ownBalance(a, day) : 0;
            }
            return sum;
        }

        int quantity(int account, int commodity, int day) {
            int sum = 0;
            for (int a = 0; a < accounts.size() && there(account); a++) {
                sum += under(a, account) ? (int) held(a, commodity, day)[0] : 0;
            }
            return sum;
        }

        long lot(int account, int commodity, int k) {
            List<Lot> mine = new Booking(transactions).lots.get(new Holding(account, commodity));
            if (mine == null || k < 0 || k >= mine.size()) {
                return -1;
            }
            return mine.get(k).quantity() * 4294967296L + mine.get(k).cost();
        }

        long printed(int account, int day, int u) {
            if (!there(account) || u < 1 || u > 1000000) {
                return 0;
            }
            int parent = accounts.get(account).parent();
            List<Part> parts = new ArrayList<>();
            if (parent >= 0) {
                parts.add(new Part(-1, ownBalance(parent, day)));
            }
            for (int a = 0; a < accounts.size(); a++) {
                if (accounts.get(a).parent() == parent) {
                    parts.add(new Part(a, balance(a, day)));
                }
            }
            long more = parent >= 0 ? printed(parent, day, u) : 0;
            for (Part part : parts) {
                more -= down(part.balance(), u);
            }
            // The sort is stable, so of equal remainders the earlier parts stay in front.
            List<Part> ranked = new ArrayList<>(parts);
            ranked.sort((p, q) -> Long.compare(q.balance() - u * down(q.balance(), u), p.balance() - u * down(p.balance(), u)));
            for (int i = 0; i < ranked.size(); i++) {
                if (ranked.get(i).account() == account) {
                    return down(ranked.get(i).balance(), u) + (i < more ? 1 : 0);
                }
            }
            return Long.MIN_VALUE;
        }

        private static long down(long b, long u) {
            long q = b / u;
            return q * u > b ? q - 1 : q;
        }
    }

    /** One run: both are called alike, and the first difference ends it. */
    private static final class Run {
        final Random random;
        final LotBooks x = new LotBooks();
        final Model m = new Model();
        final List<String> told = new ArrayList<>();
        /** Narrow runs stay where transactions touch one another; wide ones reach the greatest numbers. */
        final boolean wide;
        /** Eager runs seldom ask for what is refused, so that the books get full. */
        final boolean eager;
        boolean differs = false;
        static int done = 0, refusedShort = 0, refusedUnbalanced = 0, refusedLater = 0;

        Run(int seed) {
            random = new Random(seed);
            wide = seed % 3 == 0;
            eager = seed % 3 == 1;
        }

        void same(String call, long got, long want) {
            told.add(call + " = " + got);
            if (got != want && !differs) {
                differs = true;
                told.add("  due is " + want);
            }
        }

        void same(String call, boolean got, boolean want) {
            same(call, got ? 1 : 0, want ? 1 : 0);
        }

        int upTo(int most) {
            return random.nextInt(most + 1);
        }

        /** Mostly a good value, now and then one just outside or far off. */
        int near(int least, int most) {
            int pick = upTo(eager ? 399 : 39);
            if (pick == 0) {
                return least - 1;
            }
            if (pick == 1) {
                return most + 1;
            }
            if (pick == 2) {
                return random.nextBoolean() ? Integer.MIN_VALUE : Integer.MAX_VALUE;
            }
            return pick == 3 ? most : pick == 4 ? least : least + upTo(most - least);
        }

        int anyDay() {
            return wide && upTo(5) == 0 ? near(0, 9999) : near(0, eager ? 30 : 12);
        }

        int anyAccount() {
            return near(0, m.accounts.size() - 1);
        }

        int assetAccount() {
            int a = anyAccount();
            for (int i = 0; i < 8 && !(m.there(a) && m.accounts.get(a).kind() == 0); i++) {
                a = anyAccount();
            }
            return a;
        }

        int amount() {
            return wide ? near(-1000000, 1000000) : near(-40, 40);
        }

        void call() {
            int pick = upTo(99);
            if (m.draft == null) {
                if (pick < 8) {
                    opened();
                } else if (pick < 45) {
                    int d = anyDay();
                    same("begin(" + d + ")", x.begin(d), m.begin(d));
                } else if (pick < 55) {
                    for (int i = 0; i < (eager ? 3 : 1); i++) {
                        prices();
                    }
                } else if (pick < 59) {
                    checks();
                } else if (pick < 63) {
                    int d = m.closings.isEmpty() ? anyDay() : m.closings.get(m.closings.size() - 1).day() + upTo(3);
                    same("close(" + d + ")", x.close(d), m.close(d));
                } else if (pick < 66) {
                    same("reopen()", x.reopen(), m.reopen());
                } else if (pick < 67) {
                    same("drop()", x.drop(), m.drop());
                } else {
                    asked();
                }
            } else if (pick < (eager ? 60 : 70)) {
                posted();
            } else if (pick < 90) {
                committed();
            } else if (pick < 92) {
                same("begin", x.begin(5), m.begin(5));
                same("close", x.close(9999), m.close(9999));
                same("reopen", x.reopen(), m.reopen());
            } else {
                asked();
            }
        }

        void opened() {
            int parent = anyAccount();
            int d = upTo(3) == 0 ? anyDay() : 0;
            same("open(" + parent + ", " + d + ")", x.open(parent, d), m.open(parent, d));
        }

        void prices() {
            int c = near(1, 4);
            int d = anyDay();
            int p = wide ? near(0, 10000) : near(0, 20);
            same("price(" + c + ", " + d + ", " + p + ")", x.price(c, d, p), m.price(c, d, p));
        }

        void checks() {
            int a = anyAccount();
            int d = anyDay();
            long right = m.there(a) ? m.posted(m.transactions, a, d) : 0;
            int amount = (int) right + (upTo(5) == 0 ? 1 : 0);
            same("check(" + a + ", " + d + ", " + amount + ")", x.check(a, d, amount), m.check(a, d, amount));
        }

        void posted() {
            int pick = upTo(eager ? 6 : 9);
            if (pick < 2) {
                int a = anyAccount();
                int amount = amount();
                same("money(" + a + ", " + amount + ")", x.money(a, amount), m.money(a, amount));
            } else if (pick < 5) {
                int a = assetAccount();
                int c = wide ? near(1, 4) : near(1, 2);
                int q = wide ? near(1, 1000) : near(1, 9);
                int cost = wide ? near(0, 1000000) : near(0, 50);
                same("acquire(" + a + ", " + c + ", " + q + ", " + cost + ")",
                        x.acquire(a, c, q, cost), m.acquire(a, c, q, cost));
            } else if (pick < 8) {
                int a = assetAccount();
                int c = wide ? near(1, 4) : near(1, 2);
                int q = wide ? near(1, 1000) : near(1, eager ? 3 : 9);
                int how = near(0, 2);
                same("release(" + a + ", " + c + ", " + q + ", " + how + ")",
                        x.release(a, c, q, how), m.release(a, c, q, how));
            } else {
                int a = anyAccount();
                same("rest(" + a + ")", x.rest(a), m.rest(a));
            }
        }

        void committed() {
            if (eager) {
                same("rest(2)", x.rest(2), m.rest(2));
            }
            int how = m.commit();
            same("commit()", x.commit(), how);
            done += how == 0 ? 1 : 0;
            refusedShort += how == 2 ? 1 : 0;
            refusedUnbalanced += how == 3 ? 1 : 0;
            refusedLater += how == 4 ? 1 : 0;
            if (how != 0 && (how == 4 || upTo(1) == 0)) {
                same("drop()", x.drop(), m.drop());
            } else if (how == 3) {
                same("rest(2)", x.rest(2), m.rest(2));
            }
        }

        void asked() {
            int a = anyAccount();
            int d = anyDay();
            int c = near(1, 4);
            switch (upTo(8)) {
                case 0 -> same("count()", x.count(), m.transactions.size());
                case 1, 2 -> {
                    int n = near(0, Math.max(0, m.transactions.size() - 1));
                    int k = near(0, 5);
                    same("weight(" + n + ", " + k + ")", x.weight(n, k), m.weight(n, k));
                }
                case 3 -> same("priceOn(" + c + ", " + d + ")", x.priceOn(c, d), m.priceOn(c, d));
                case 4 -> {
                    int k = near(0, 8);
                    same("profit(" + k + ")", x.profit(k), m.profit(k));
                }
                case 5 -> same("balance(" + a + ", " + d + ")", x.balance(a, d), m.balance(a, d));
                case 6 -> same("quantity(" + a + ", " + c + ", " + d + ")", x.quantity(a, c, d), m.quantity(a, c, d));
                case 7 -> {
                    int k = near(0, 3);
                    same("lot(" + a + ", " + c + ", " + k + ")", x.lot(a, c, k), m.lot(a, c, k));
                }
                default -> {
                    int u = wide ? near(1, 1000000) : near(1, 12);
                    same("printed(" + a + ", " + d + ", " + u + ")", x.printed(a, d, u), m.printed(a, d, u));
                }
            }
        }

        /** Which of the document's limits the books have reached. */
        Set<String> full() {
            Map<String, Boolean> limits = Map.of(
                    "24 accounts", m.accounts.size() == 24,
                    "40 transactions", m.transactions.size() == 40,
                    "30 prices", m.allPrices() == 30,
                    "10 checks", m.checks.size() == 10,
                    "8 closings", m.closings.size() == 8);
            Set<String> reached = new TreeSet<>(limits.keySet());
            reached.removeIf(limit -> !limits.get(limit));
            return reached;
        }

        /** Everything that can be asked of the accounts at the end, on one day. */
        void askAll() {
            for (int a = 0; a < m.accounts.size(); a++) {
                same("balance(" + a + ", 7)", x.balance(a, 7), m.balance(a, 7));
                same("balance(" + a + ", 9999)", x.balance(a, 9999), m.balance(a, 9999));
                same("printed(" + a + ", 12, 7)", x.printed(a, 12, 7), m.printed(a, 12, 7));
                for (int c = 1; c <= 2; c++) {
                    same("lot(" + a + ", " + c + ", 0)", x.lot(a, c, 0), m.lot(a, c, 0));
                }
            }
            for (int n = 0; n < m.transactions.size(); n++) {
                same("weight(" + n + ", 0)", x.weight(n, 0), m.weight(n, 0));
            }
        }
    }

    public static void main(String[] args) {
        int wrong = 0;
        long calls = 0;
        Map<String, Integer> full = new TreeMap<>();
        for (int seed = 0; seed < RUNS && wrong < 3; seed++) {
            Run run = new Run(seed);
            while (run.told.size() < CALLS - 170 && !run.differs) {
                run.call();
            }
            if (!run.differs) {
                run.askAll();
            }
            calls += run.told.size();
            run.full().forEach(limit -> full.merge(limit, 1, Integer::sum));
            if (run.told.size() > CALLS + 1) {
                wrong++;
                System.out.println("seed " + seed + " makes too many calls: " + run.told.size());
            }
            if (run.differs) {
                wrong++;
                System.out.println("seed " + seed + ":");
                run.told.forEach(line -> System.out.println("  " + line));
            }
        }
        System.out.println(calls + " calls alike; commits: " + Run.done + " done, " + Run.refusedShort + " short, "
                + Run.refusedUnbalanced + " unbalanced, " + Run.refusedLater + " later");
        System.out.println("runs that reached a limit: " + full);
        if (wrong != 0 || full.size() < 5) {
            System.exit(1);
        }
    }
}
