// For each promise of the document: ordinary inputs, the edges that it names, and wrong inputs.
// Every block starts on an object of its own; a boolean counts 1 or 0.
public final class PromiseTests {
    private static final int ASSET = 0, LIABILITY = 1, EQUITY = 2, INCOME = 3, EXPENSE = 4;
    private static final int UNREALISED = 5, RETAINED = 6;
    private static final long PLACE = 4294967296L;

    private static int promise = 0;
    private static int asked = 0;
    private static int wrong = 0;

    private static void due(String what, long got, long want) {
        asked++;
        if (got != want) {
            wrong++;
            System.out.println("promise " + promise + ": " + what + " answered " + got + ", due is " + want);
        }
    }

    private static void due(String what, boolean got, boolean want) {
        due(what, got ? 1 : 0, want ? 1 : 0);
    }

    private static void yes(String what, boolean got) {
        due(what, got, true);
    }

    private static void no(String what, boolean got) {
        due(what, got, false);
    }

    /** A balanced transaction of two postings. */
    private static void move(LotBooks x, int day, int to, int from, int amount) {
        yes("begin(" + day + ")", x.begin(day));
        yes("money to " + to, x.money(to, amount));
        yes("rest from " + from, x.rest(from));
        due("commit", x.commit(), LotBooks.DONE);
    }

    /** Buys a lot with EQUITY's money. */
    private static void buy(LotBooks x, int day, int account, int commodity, int quantity, int cost) {
        yes("begin(" + day + ")", x.begin(day));
        yes("acquire", x.acquire(account, commodity, quantity, cost));
        yes("rest", x.rest(EQUITY));
        due("commit", x.commit(), LotBooks.DONE);
    }

    /** Gives lots away against INCOME, with the answer that commit owes. */
    private static void sell(LotBooks x, int day, int account, int commodity, int quantity, int how) {
        yes("begin(" + day + ")", x.begin(day));
        yes("release", x.release(account, commodity, quantity, how));
        yes("rest", x.rest(INCOME));
        due("commit", x.commit(), LotBooks.DONE);
    }

    public static void main(String[] args) {
        promise = 1;
        aNewObject();
        promise = 2;
        opening();
        promise = 3;
        beginning();
        promise = 4;
        moneyPostings();
        promise = 5;
        acquiring();
        promise = 6;
        releasing();
        promise = 7;
        resting();
        promise = 8;
        committing();
        refusedCommitsChangeNothing();
        promise = 9;
        dropping();
        promise = 10;
        counting();
        promise = 11;
        weighing();
        promise = 12;
        pricing();
        promise = 13;
        pricesThatHold();
        promise = 14;
        checking();
        promise = 15;
        closing();
        closingTwice();
        closingLimits();
        promise = 16;
        reopening();
        promise = 17;
        profits();
        promise = 18;
        balances();
        promise = 19;
        quantities();
        promise = 20;
        lots();
        lotsByAverage();
        promise = 21;
        printing();
        printingTies();
        printingLimits();
        System.out.println(asked + " answers, " + wrong + " not as due");
        if (wrong != 0) {
            System.exit(1);
        }
    }

    private static void aNewObject() {
        LotBooks x = new LotBooks();
        due("count", x.count(), 0);
        due("commit", x.commit(), LotBooks.NO_DRAFT);
        no("drop", x.drop());
        no("reopen", x.reopen());
        due("profit(0)", x.profit(0), 0);
        for (int a = -1; a <= 24; a++) {
            due("balance(" + a + ")", x.balance(a, 9999), 0);
            for (int c = -1; c <= 5; c++) {
                due("quantity", x.quantity(a, c, 9999), 0);
                due("lot", x.lot(a, c, 0), LotBooks.NONE);
            }
        }
        for (int c = -1; c <= 5; c++) {
            due("priceOn(" + c + ")", x.priceOn(c, 9999), LotBooks.NONE);
        }
        yes("all seven can be used from day 0 on", x.begin(0));
        for (int a = 0; a <= 5; a++) {
            yes("money(" + a + ")", x.money(a, a + 1));
        }
        yes("drop", x.drop());
        yes("begin", x.begin(0));
        yes("money(6)", x.money(6, 1));
        no("money(7)", x.money(7, 1));
        yes("rest(5)", x.rest(5));
        due("commit", x.commit(), LotBooks.DONE);
        due("RETAINED is below EQUITY", x.balance(EQUITY, 0), 1);
        due("UNREALISED is below INCOME", x.balance(INCOME, 0), -1);
        LotBooks y = new LotBooks();
        due("another object shares nothing", y.count(), 0);
        due("another object shares nothing", y.balance(EQUITY, 0), 0);
    }

    private static void opening() {
        LotBooks x = new LotBooks();
        due("no such parent", x.open(-1, 0), LotBooks.NONE);
        due("no such parent", x.open(7, 0), LotBooks.NONE);
        due("no such parent", x.open(Integer.MAX_VALUE, 0), LotBooks.NONE);
        due("no such parent", x.open(Integer.MIN_VALUE, 0), LotBooks.NONE);
        due("no such day", x.open(0, -1), LotBooks.NONE);
        due("no such day", x.open(0, 10000), LotBooks.NONE);
        due("the first day", x.open(ASSET, 0), 7);
        due("the last day", x.open(7, 9999), 8);
        due("a child may be used before its parent", x.open(8, 3), 9);
        for (int a = 10; a < 24; a++) {
            due("open", x.open(a - 1, 3), a);
        }
        due("24 accounts are there", x.open(0, 0), LotBooks.NONE);
        yes("begin", x.begin(3));
        no("not yet usable", x.money(8, 1));
        yes("kind and day hold deep down", x.acquire(23, 1, 1, 5));
        yes("rest", x.rest(EQUITY));
        due("commit", x.commit(), LotBooks.DONE);
        due("what is below counts", x.balance(ASSET, 3), 5);
        due("what is below counts", x.balance(8, 3), 5);
        yes("with all accounts", x.price(1, 3, 7));
        yes("with all accounts", x.close(3));
        due("with all accounts", x.balance(23, 3), 7);
        due("with all accounts", x.printed(23, 3, 2), 4);
        due("with all accounts", x.printed(EQUITY, 3, 2), -4);
    }

    private static void beginning() {
        LotBooks x = new LotBooks();
        no("begin(-1)", x.begin(-1));
        no("begin(10000)", x.begin(10000));
        no("begin(MIN)", x.begin(Integer.MIN_VALUE));
        yes("begin(9999)", x.begin(9999));
        no("there is a draft", x.begin(9999));
        yes("drop", x.drop());
        yes("close(4)", x.close(4));
        no("before the closing", x.begin(3));
        no("on the closing's day", x.begin(4));
        yes("after the closing", x.begin(5));
        yes("money", x.money(ASSET, 1));
        yes("drop", x.drop());
        yes("begin", x.begin(5));
        due("a new draft has no postings", x.commit(), LotBooks.DONE);
        for (int n = 1; n < 40; n++) {
            yes("begin", x.begin(5));
            due("commit", x.commit(), LotBooks.DONE);
        }
        due("count", x.count(), 40);
        no("there are 40 transactions", x.begin(5));
        due("no draft came of it", x.commit(), LotBooks.NO_DRAFT);
    }

    private static void moneyPostings() {
        LotBooks x = new LotBooks();
        due("open", x.open(EXPENSE, 6), 7);
        no("no draft", x.money(0, 1));
        yes("begin", x.begin(5));
        no("no such account", x.money(-1, 1));
        no("no such account", x.money(8, 1));
        no("usable from a later day on", x.money(7, 1));
        no("amount 0", x.money(0, 0));
        no("too much", x.money(0, 1000001));
        no("too little", x.money(0, -1000001));
        no("MIN", x.money(0, Integer.MIN_VALUE));
        yes("the most", x.money(ASSET, 1000000));
        yes("the least", x.money(LIABILITY, -1000000));
        yes("money", x.money(INCOME, 3));
        yes("money", x.money(INCOME, -1));
        yes("money", x.money(UNREALISED, -1));
        yes("money", x.money(RETAINED, -1));
        no("there are 6 postings", x.money(ASSET, 1));
        due("commit", x.commit(), LotBooks.DONE);
        due("weight", x.weight(0, 0), 1000000);
        due("weight", x.weight(0, 1), -1000000);
        due("weight", x.weight(0, 5), -1);
        due("balance", x.balance(INCOME, 5), 1);
        yes("begin", x.begin(6));
        yes("usable on its own day", x.money(7, 1));
    }

    private static void acquiring() {
        LotBooks x = new LotBooks();
        due("open", x.open(ASSET, 6), 7);
        due("open", x.open(ASSET, 0), 8);
        due("open", x.open(EQUITY, 0), 9);
        no("no draft", x.acquire(0, 1, 1, 1));
        yes("begin", x.begin(5));
        no("no such account", x.acquire(-1, 1, 1, 1));
        no("no such account", x.acquire(10, 1, 1, 1));
        no("usable from a later day on", x.acquire(7, 1, 1, 1));
        for (int a = 1; a <= 6; a++) {
            no("not of kind ASSET", x.acquire(a, 1, 1, 1));
        }
        no("not of kind ASSET", x.acquire(9, 1, 1, 1));
        no("the currency", x.acquire(0, 0, 1, 1));
        no("no such commodity", x.acquire(0, 5, 1, 1));
        no("no such commodity", x.acquire(0, -1, 1, 1));
        no("quantity 0", x.acquire(0, 1, 0, 1));
        no("quantity -1", x.acquire(0, 1, -1, 1));
        no("quantity 1001", x.acquire(0, 1, 1001, 1));
        no("cost -1", x.acquire(0, 1, 1, -1));
        no("cost 1000001", x.acquire(0, 1, 1, 1000001));
        yes("the greatest", x.acquire(8, 4, 1000, 1000000));
        yes("the least", x.acquire(0, 1, 1, 0));
        yes("acquire", x.acquire(0, 1, 2, 9));
        yes("acquire", x.acquire(0, 2, 3, 8));
        yes("rest", x.rest(EQUITY));
        yes("acquire behind the rest", x.acquire(0, 1, 4, 7));
        no("there are 6 postings", x.acquire(0, 1, 1, 1));
        due("commit", x.commit(), LotBooks.DONE);
        due("the weight is the cost", x.weight(0, 0), 1000000);
        due("the weight is the cost", x.weight(0, 1), 0);
        due("lot", x.lot(8, 4, 0), 1000 * PLACE + 1000000);
        due("oldest", x.lot(0, 1, 0), PLACE);
        due("middle", x.lot(0, 1, 1), 2 * PLACE + 9);
        due("newest", x.lot(0, 1, 2), 4 * PLACE + 7);
        due("another commodity", x.lot(0, 2, 0), 3 * PLACE + 8);
    }

    private static void releasing() {
        LotBooks x = new LotBooks();
        due("open", x.open(ASSET, 6), 7);
        due("open", x.open(EQUITY, 0), 8);
        no("no draft", x.release(0, 1, 1, LotBooks.FIFO));
        yes("begin", x.begin(5));
        no("no such account", x.release(-1, 1, 1, LotBooks.FIFO));
        no("no such account", x.release(9, 1, 1, LotBooks.FIFO));
        no("usable from a later day on", x.release(7, 1, 1, LotBooks.FIFO));
        for (int a = 1; a <= 6; a++) {
            no("not of kind ASSET", x.release(a, 1, 1, LotBooks.FIFO));
        }
        no("not of kind ASSET", x.release(8, 1, 1, LotBooks.FIFO));
        no("the currency", x.release(0, 0, 1, LotBooks.FIFO));
        no("no such commodity", x.release(0, 5, 1, LotBooks.FIFO));
        no("quantity 0", x.release(0, 1, 0, LotBooks.FIFO));
        no("quantity 1001", x.release(0, 1, 1001, LotBooks.FIFO));
        no("how -1", x.release(0, 1, 1, -1));
        no("how 3", x.release(0, 1, 1, 3));
        yes("a lot", x.acquire(0, 1, 1000, 7));
        yes("all of it", x.release(0, 1, 1000, LotBooks.AVERAGE));
        yes("money", x.money(0, 1));
        yes("money", x.money(0, -2));
        yes("money", x.money(0, 1));
        yes("one more is short", x.release(0, 1, 1, LotBooks.LIFO));
        no("there are 6 postings", x.release(0, 1, 1, LotBooks.FIFO));
        due("commit", x.commit(), LotBooks.SHORT);
        yes("drop", x.drop());
        buy(x, 5, 0, 1, 3, 10);
        yes("begin", x.begin(6));
        yes("no lots of those above", x.release(7, 1, 1, LotBooks.FIFO));
        yes("rest", x.rest(INCOME));
        due("commit", x.commit(), LotBooks.SHORT);
        yes("drop", x.drop());
        buy(x, 6, 7, 1, 5, 50);
        yes("begin", x.begin(6));
        yes("no lots of those below", x.release(0, 1, 4, LotBooks.FIFO));
        yes("rest", x.rest(INCOME));
        due("commit", x.commit(), LotBooks.SHORT);
        yes("drop", x.drop());
        yes("begin", x.begin(6));
        yes("no lots of another commodity", x.release(0, 2, 1, LotBooks.FIFO));
        yes("rest", x.rest(INCOME));
        due("commit", x.commit(), LotBooks.SHORT);
    }

    private static void resting() {
        LotBooks x = new LotBooks();
        due("open", x.open(INCOME, 6), 7);
        no("no draft", x.rest(0));
        yes("begin", x.begin(5));
        no("no such account", x.rest(-1));
        no("no such account", x.rest(8));
        no("usable from a later day on", x.rest(7));
        yes("first of all", x.rest(EXPENSE));
        no("a second one", x.rest(EXPENSE));
        no("a second one elsewhere", x.rest(ASSET));
        yes("money", x.money(ASSET, 12));
        yes("acquire", x.acquire(ASSET, 1, 2, 30));
        due("commit", x.commit(), LotBooks.DONE);
        due("those behind it count", x.weight(0, 0), -42);
        yes("begin", x.begin(6));
        for (int k = 0; k < 6; k++) {
            yes("money", x.money(ASSET, 1));
        }
        no("there are 6 postings", x.rest(7));
        yes("drop", x.drop());
        yes("begin", x.begin(6));
        yes("the rest of a former draft is forgotten", x.rest(7));
        due("alone it weighs nothing", x.commit(), LotBooks.DONE);
        due("alone it weighs nothing", x.weight(1, 0), 0);
    }

    private static void committing() {
        LotBooks x = new LotBooks();
        due("no draft", x.commit(), LotBooks.NO_DRAFT);
        yes("begin", x.begin(5));
        due("no postings", x.commit(), LotBooks.DONE);
        due("the draft is gone", x.commit(), LotBooks.NO_DRAFT);
        yes("begin", x.begin(5));
        yes("money", x.money(ASSET, 4));
        due("unbalanced", x.commit(), LotBooks.UNBALANCED);
        yes("short and unbalanced", x.release(ASSET, 1, 1, LotBooks.FIFO));
        due("short goes first", x.commit(), LotBooks.SHORT);
        yes("drop", x.drop());

        buy(x, 10, ASSET, 1, 10, 100);
        yes("begin", x.begin(20));
        yes("release", x.release(ASSET, 1, 5, LotBooks.FIFO));
        yes("money", x.money(INCOME, 50));
        due("balances without a rest", x.commit(), LotBooks.DONE);

        yes("begin", x.begin(9));
        yes("release", x.release(ASSET, 1, 1, LotBooks.FIFO));
        yes("rest", x.rest(INCOME));
        due("before the lot comes to be", x.commit(), LotBooks.SHORT);
        yes("drop", x.drop());
        yes("begin", x.begin(10));
        yes("release", x.release(ASSET, 1, 6, LotBooks.FIFO));
        due("unbalanced goes before later", x.commit(), LotBooks.UNBALANCED);
        yes("rest", x.rest(INCOME));
        due("one behind becomes short", x.commit(), LotBooks.LATER);
        yes("drop", x.drop());
        yes("begin", x.begin(9));
        yes("acquire", x.acquire(ASSET, 1, 1, 3));
        yes("rest", x.rest(EQUITY));
        due("one behind becomes unbalanced", x.commit(), LotBooks.LATER);
        yes("drop", x.drop());
        yes("begin", x.begin(20));
        yes("release", x.release(ASSET, 1, 5, LotBooks.FIFO));
        yes("rest", x.rest(INCOME));
        due("behind those of its own day", x.commit(), LotBooks.DONE);
        due("its place", x.weight(3, 1), 50);

        LotBooks y = new LotBooks();
        move(y, 5, ASSET, EQUITY, 10);
        yes("check", y.check(ASSET, 5, 10));
        yes("begin", y.begin(5));
        yes("money", y.money(ASSET, 1));
        yes("rest", y.rest(EQUITY));
        due("a check would not hold, with none behind", y.commit(), LotBooks.LATER);
        yes("drop", y.drop());
        move(y, 6, ASSET, EQUITY, 1);
    }

    private static void refusedCommitsChangeNothing() {
        LotBooks x = new LotBooks();
        buy(x, 10, ASSET, 1, 10, 101);
        buy(x, 11, ASSET, 1, 10, 300);
        yes("begin", x.begin(20));
        yes("release", x.release(ASSET, 1, 15, LotBooks.LIFO));
        yes("rest", x.rest(INCOME));
        due("commit", x.commit(), LotBooks.DONE);
        yes("begin", x.begin(15));
        yes("average", x.release(ASSET, 1, 6, LotBooks.AVERAGE));
        yes("rest", x.rest(INCOME));
        for (int i = 0; i < 3; i++) {
            due("commit", x.commit(), LotBooks.LATER);
            due("count", x.count(), 3);
            due("weight", x.weight(2, 0), -350);
            due("lot", x.lot(ASSET, 1, 0), 5 * PLACE + 51);
            due("no other lot", x.lot(ASSET, 1, 1), LotBooks.NONE);
            due("balance", x.balance(INCOME, 20), 350);
            due("quantity", x.quantity(ASSET, 1, 15), 20);
        }
        no("the draft stays", x.rest(INCOME));
        yes("the draft can be added to", x.acquire(ASSET, 1, 6, 60));
        due("commit", x.commit(), LotBooks.DONE);
        due("average of 401 * 6 / 20 down", x.weight(2, 0), -120);
        due("rest", x.weight(2, 1), 60);
        due("newest first, then from the merged lot", x.weight(3, 0), -(60 + 281 * 9 / 14));
        due("lot", x.lot(ASSET, 1, 0), 5 * PLACE + (281 - 281 * 9 / 14));
    }

    private static void dropping() {
        LotBooks x = new LotBooks();
        no("no draft", x.drop());
        yes("begin", x.begin(5));
        yes("money", x.money(ASSET, 4));
        yes("drop", x.drop());
        no("no draft any more", x.drop());
        no("no draft any more", x.money(ASSET, 4));
        due("no draft any more", x.commit(), LotBooks.NO_DRAFT);
        due("count", x.count(), 0);
        due("balance", x.balance(ASSET, 9999), 0);
        move(x, 3, ASSET, EQUITY, 1);
        no("a transaction is no draft", x.drop());
        due("count", x.count(), 1);
    }

    private static void counting() {
        LotBooks x = new LotBooks();
        due("count", x.count(), 0);
        yes("begin", x.begin(5));
        due("a draft is not seen", x.count(), 0);
        due("commit", x.commit(), LotBooks.DONE);
        due("count", x.count(), 1);
        move(x, 2, ASSET, EQUITY, 1);
        due("count", x.count(), 2);
        yes("close", x.close(9));
        due("closings are no transactions", x.count(), 2);
    }

    private static void weighing() {
        LotBooks x = new LotBooks();
        move(x, 7, ASSET, EQUITY, 70);
        move(x, 3, ASSET, EQUITY, 30);
        move(x, 7, ASSET, EQUITY, 71);
        move(x, 5, ASSET, EQUITY, 50);
        move(x, 3, ASSET, EQUITY, 31);
        int[] amounts = {30, 31, 50, 70, 71};
        for (int n = 0; n < 5; n++) {
            due("in order of days, then of commits", x.weight(n, 0), amounts[n]);
            due("rest", x.weight(n, 1), -amounts[n]);
            due("no such posting", x.weight(n, 2), 0);
        }
        due("no such transaction", x.weight(5, 0), 0);
        due("no such transaction", x.weight(-1, 0), 0);
        due("no such transaction", x.weight(Integer.MAX_VALUE, 0), 0);
        due("no such transaction", x.weight(Integer.MIN_VALUE, 0), 0);
        due("no such posting", x.weight(1, -1), 0);
        due("no such posting", x.weight(0, 6), 0);
        due("no such posting", x.weight(0, Integer.MAX_VALUE), 0);
        yes("begin", x.begin(9));
        yes("money", x.money(ASSET, 4));
        due("a draft is not seen", x.weight(5, 0), 0);
        weighingWhatMovesBack();
    }

    /** Where long transactions stood, short ones stand later. */
    private static void weighingWhatMovesBack() {
        LotBooks x = new LotBooks();
        for (int n = 0; n < 2; n++) {
            yes("begin", x.begin(9));
            for (int k = 0; k < 6; k++) {
                yes("money", x.money(ASSET, k < 3 ? 5 : -5));
            }
            due("commit", x.commit(), LotBooks.DONE);
        }
        for (int n = 0; n < 4; n++) {
            yes("begin", x.begin(4));
            due("commit", x.commit(), LotBooks.DONE);
            for (int k = 0; k < 6; k++) {
                due("without postings", x.weight(0, k), 0);
                due("without postings", x.weight(n, k), 0);
                due("moved back", x.weight(n + 1, k), k < 3 ? 5 : -5);
            }
        }
    }

    private static void pricing() {
        LotBooks x = new LotBooks();
        no("the currency", x.price(0, 5, 1));
        no("no such commodity", x.price(5, 5, 1));
        no("no such commodity", x.price(-1, 5, 1));
        no("no such day", x.price(1, -1, 1));
        no("no such day", x.price(1, 10000, 1));
        no("too low", x.price(1, 5, -1));
        no("too high", x.price(1, 5, 10001));
        due("nothing changed", x.priceOn(1, 9999), LotBooks.NONE);
        yes("close", x.close(4));
        no("on the closing's day", x.price(1, 4, 1));
        yes("the day after", x.price(1, 5, 1));
        yes("begin", x.begin(5));
        yes("while there is a draft", x.price(4, 9999, 10000));
        yes("a price of 0", x.price(4, 9998, 0));
        for (int day = 10; day < 37; day++) {
            yes("price", x.price(2, day, day));
        }
        no("there are 30", x.price(2, 9, 1));
        no("there are 30", x.price(3, 10, 1));
        yes("one that is there", x.price(2, 36, 77));
        due("priceOn", x.priceOn(2, 36), 77);
        due("priceOn", x.priceOn(2, 35), 35);
        due("priceOn", x.priceOn(3, 36), LotBooks.NONE);
        no("still 30", x.price(1, 6, 1));
    }

    private static void pricesThatHold() {
        LotBooks x = new LotBooks();
        yes("price", x.price(1, 20, 200));
        yes("price", x.price(1, 10, 100));
        yes("price", x.price(1, 30, 0));
        yes("price", x.price(2, 15, 5));
        due("before the first", x.priceOn(1, 9), LotBooks.NONE);
        due("on its day", x.priceOn(1, 10), 100);
        due("after it", x.priceOn(1, 19), 100);
        due("on the next", x.priceOn(1, 20), 200);
        due("until the last", x.priceOn(1, 29), 200);
        due("a price of 0 holds", x.priceOn(1, 30), 0);
        due("any int", x.priceOn(1, Integer.MAX_VALUE), 0);
        due("any int", x.priceOn(1, Integer.MIN_VALUE), LotBooks.NONE);
        due("another commodity", x.priceOn(2, 20), 5);
        due("the currency", x.priceOn(0, 20), LotBooks.NONE);
        due("no such commodity", x.priceOn(5, 20), LotBooks.NONE);
        due("no such commodity", x.priceOn(-1, 20), LotBooks.NONE);
        yes("price", x.price(1, 10, 101));
        due("changed", x.priceOn(1, 10), 101);
        due("others are as they were", x.priceOn(1, 20), 200);
    }

    private static void checking() {
        LotBooks x = new LotBooks();
        due("open", x.open(ASSET, 0), 7);
        move(x, 5, 7, EQUITY, 10);
        no("no such account", x.check(8, 5, 0));
        no("no such account", x.check(-1, 5, 0));
        no("no such day", x.check(ASSET, -1, 0));
        no("no such day", x.check(ASSET, 10000, 10));
        no("another amount", x.check(ASSET, 5, 11));
        no("another amount", x.check(ASSET, 4, 10));
        yes("with those below", x.check(ASSET, 5, 10));
        yes("before it", x.check(7, 4, 0));
        yes("begin", x.begin(5));
        yes("money", x.money(7, 1));
        yes("rest", x.rest(ASSET));
        yes("a draft is not posted", x.check(7, 5, 10));
        due("the sum below ASSET holds, that of 7 does not", x.commit(), LotBooks.LATER);
        yes("drop", x.drop());
        yes("close", x.close(6));
        for (int i = 0; i < 7; i++) {
            yes("check", x.check(EQUITY, 9999, -10));
        }
        no("there are 10", x.check(EQUITY, 9999, -10));
        yes("begin", x.begin(9999));
        yes("money", x.money(EQUITY, 1));
        yes("rest", x.rest(ASSET));
        due("the last day's check", x.commit(), LotBooks.LATER);

        LotBooks z = new LotBooks();
        move(z, 5, ASSET, EQUITY, 10);
        move(z, 6, ASSET, EQUITY, 30);
        no("the last one alone", z.check(ASSET, 6, 30));
        yes("all of them", z.check(ASSET, 6, 40));

        LotBooks y = new LotBooks();
        move(y, 5, ASSET, INCOME, 10);
        yes("close", y.close(6));
        no("closings are not posted", y.check(INCOME, 6, 0));
        yes("check", y.check(INCOME, 6, -10));
        yes("check", y.check(RETAINED, 6, 0));
    }

    private static void closing() {
        LotBooks x = new LotBooks();
        due("open", x.open(ASSET, 0), 7);
        due("open", x.open(INCOME, 0), 8);
        due("open", x.open(EXPENSE, 0), 9);
        due("open", x.open(UNREALISED, 0), 10);
        buy(x, 1, 7, 1, 10, 100);
        buy(x, 1, ASSET, 1, 4, 40);
        buy(x, 2, 7, 2, 3, 9);
        buy(x, 2, 7, 3, 2, 1000);
        move(x, 3, ASSET, 8, 70);
        move(x, 3, 9, ASSET, 20);
        move(x, 4, ASSET, INCOME, 5);
        move(x, 4, ASSET, 10, 6);
        move(x, 4, LIABILITY, RETAINED, 8);
        move(x, 11, ASSET, 8, 900);
        yes("price", x.price(1, 3, 12));
        yes("price", x.price(2, 10, 0));
        yes("price", x.price(3, 11, 600));
        yes("price", x.price(1, 11, 99));
        yes("close", x.close(10));
        due("1 is worth 20 more, 2 is worth 9 less, 3 has no price", x.balance(7, 10), 1109 + 20 - 9);
        due("own adjustment", x.balance(ASSET, 10), 1109 + 11 + 40 + 8 + 70 - 20 + 5 + 6);
        due("INCOME", x.balance(INCOME, 10), 0);
        due("8", x.balance(8, 10), 0);
        due("EXPENSE", x.balance(EXPENSE, 10), 0);
        due("9", x.balance(9, 10), 0);
        due("UNREALISED", x.balance(UNREALISED, 10), 0);
        due("10", x.balance(10, 10), 0);
        due("LIABILITY is not closed", x.balance(LIABILITY, 10), 8);
        due("profit", x.profit(0), 20 - 9 + 8 + 70 - 20 + 5 + 6);
        due("RETAINED", x.balance(RETAINED, 10), -8 - 80);
        due("before it", x.balance(8, 9), -70);
        due("before it", x.balance(RETAINED, 9), -8);
        due("behind it", x.balance(8, 11), -900);
        long sum = 0;
        for (int root = 0; root < 5; root++) {
            sum += x.balance(root, 10);
        }
        due("the roots sum to 0", sum, 0);
    }

    private static void closingTwice() {
        LotBooks x = new LotBooks();
        due("open", x.open(ASSET, 0), 7);
        buy(x, 1, 7, 1, 10, 1000);
        yes("price", x.price(1, 1, 130));
        yes("close", x.close(5));
        due("profit", x.profit(0), 300);
        yes("close", x.close(6));
        due("nothing has grown", x.profit(1), 0);
        due("balance", x.balance(7, 6), 1300);
        yes("price", x.price(1, 8, 90));
        yes("close", x.close(8));
        due("it has grown by -400", x.profit(2), -400);
        due("balance", x.balance(7, 8), 900);
        sell(x, 9, 7, 1, 10, LotBooks.FIFO);
        yes("close", x.close(9));
        due("the adjustment becomes 0", x.balance(7, 9), 0);
        due("the cost goes, the adjustment of -100 too", x.profit(3), -900);
        due("RETAINED", x.balance(RETAINED, 9), 1000);
        due("the past stays", x.balance(7, 6), 1300);
    }

    private static void closingLimits() {
        LotBooks x = new LotBooks();
        no("no such day", x.close(-1));
        no("no such day", x.close(10000));
        yes("begin", x.begin(3));
        no("there is a draft", x.close(3));
        yes("drop", x.drop());
        yes("the first day", x.close(0));
        no("the same day", x.close(0));
        for (int day = 1; day < 7; day++) {
            yes("close", x.close(day * 10));
            no("not later", x.close(day * 10));
            no("not later", x.close(day * 10 - 1));
        }
        yes("the last day", x.close(9999));
        no("nothing behind it", x.begin(9999));
        yes("reopen", x.reopen());
        yes("the eighth", x.close(61));
        no("there are 8", x.close(62));
        yes("begin", x.begin(62));
    }

    private static void reopening() {
        LotBooks x = new LotBooks();
        no("no closing", x.reopen());
        buy(x, 1, ASSET, 1, 10, 1000);
        yes("price", x.price(1, 1, 130));
        move(x, 2, ASSET, INCOME, 50);
        yes("close", x.close(5));
        yes("price", x.price(1, 6, 140));
        yes("close", x.close(7));
        due("profit", x.profit(0), 350);
        due("profit", x.profit(1), 100);
        yes("begin", x.begin(8));
        no("there is a draft", x.reopen());
        yes("drop", x.drop());
        yes("reopen", x.reopen());
        due("the latest is gone", x.profit(1), 0);
        due("the one before stands", x.profit(0), 350);
        due("balance", x.balance(ASSET, 9999), 1350);
        no("up to the one before", x.price(1, 5, 1));
        yes("behind the one before", x.price(1, 6, 110));
        move(x, 6, ASSET, INCOME, 7);
        yes("close", x.close(6));
        due("it grows from the one before", x.profit(1), -193);
        yes("reopen", x.reopen());
        yes("reopen", x.reopen());
        no("no closing", x.reopen());
        due("as if none had been made", x.balance(INCOME, 9999), -57);
        due("as if none had been made", x.balance(RETAINED, 9999), 0);
        due("profit", x.profit(0), 0);
        yes("the past is open", x.price(1, 0, 1));
        yes("the past is open", x.begin(0));
        yes("drop", x.drop());
        yes("close", x.close(0));
        due("adjustments begin with 0 again", x.profit(0), 0);
        yes("close", x.close(7));
        due("adjustments begin with 0 again", x.profit(1), 100 + 57);
    }

    private static void profits() {
        LotBooks x = new LotBooks();
        move(x, 1, ASSET, INCOME, 40);
        move(x, 2, EXPENSE, ASSET, 15);
        move(x, 7, EXPENSE, ASSET, 90);
        yes("close", x.close(5));
        yes("close", x.close(8));
        due("of the earliest", x.profit(0), 25);
        due("of the next", x.profit(1), -90);
        due("no such closing", x.profit(2), 0);
        due("no such closing", x.profit(-1), 0);
        due("no such closing", x.profit(Integer.MAX_VALUE), 0);
        due("no such closing", x.profit(Integer.MIN_VALUE), 0);
    }

    private static void balances() {
        LotBooks x = new LotBooks();
        due("open", x.open(ASSET, 0), 7);
        due("open", x.open(7, 0), 8);
        due("open", x.open(ASSET, 0), 9);
        move(x, 0, ASSET, EQUITY, 1);
        move(x, 10, 7, EQUITY, 10);
        move(x, 20, 8, EQUITY, 100);
        move(x, 9999, 9, EQUITY, 1000);
        due("before all", x.balance(ASSET, -1), 0);
        due("any int", x.balance(ASSET, Integer.MIN_VALUE), 0);
        due("the day itself", x.balance(ASSET, 0), 1);
        due("up to a day", x.balance(ASSET, 19), 11);
        due("up to a day", x.balance(ASSET, 20), 111);
        due("any int", x.balance(ASSET, Integer.MAX_VALUE), 1111);
        due("those below", x.balance(7, 9999), 110);
        due("not those above", x.balance(8, 9999), 100);
        due("not those beside", x.balance(9, 9999), 1000);
        due("no such account", x.balance(10, 9999), 0);
        due("no such account", x.balance(-1, 9999), 0);
        due("no such account", x.balance(Integer.MAX_VALUE, 9999), 0);
        yes("begin", x.begin(5));
        yes("money", x.money(ASSET, 4));
        due("a draft is not seen", x.balance(ASSET, 9999), 1111);

        LotBooks y = new LotBooks();
        yes("price", y.price(1, 0, 10000));
        for (int n = 0; n < 40; n++) {
            yes("begin", y.begin(0));
            for (int k = 0; k < 6; k++) {
                yes("acquire", y.acquire(ASSET, 1, 1000, 0));
            }
            due("commit", y.commit(), LotBooks.DONE);
        }
        yes("close", y.close(0));
        due("beyond an int", y.balance(ASSET, 0), 2400000000L);
        due("beyond an int", y.profit(0), 2400000000L);
        due("beyond an int", y.printed(RETAINED, 0, 1), -2400000000L);
        due("the last of all lots there can be", y.lot(ASSET, 1, 239), 1000 * PLACE);
        due("no lot behind it", y.lot(ASSET, 1, 240), LotBooks.NONE);
    }

    private static void quantities() {
        LotBooks x = new LotBooks();
        due("open", x.open(ASSET, 0), 7);
        due("open", x.open(7, 0), 8);
        buy(x, 3, ASSET, 1, 1, 10);
        buy(x, 5, 7, 1, 20, 10);
        buy(x, 7, 8, 1, 300, 10);
        buy(x, 7, 8, 2, 9, 10);
        sell(x, 9, 8, 1, 50, LotBooks.LIFO);
        due("before all", x.quantity(ASSET, 1, 2), 0);
        due("the day itself", x.quantity(ASSET, 1, 3), 1);
        due("with those below", x.quantity(ASSET, 1, 8), 321);
        due("what is released is gone", x.quantity(ASSET, 1, 9), 271);
        due("not those above", x.quantity(7, 1, 9), 270);
        due("not those above", x.quantity(8, 1, 9), 250);
        due("another commodity", x.quantity(ASSET, 2, 9), 9);
        due("another commodity", x.quantity(ASSET, 3, 9), 0);
        due("any int", x.quantity(ASSET, 1, Integer.MAX_VALUE), 271);
        due("any int", x.quantity(ASSET, 1, Integer.MIN_VALUE), 0);
        due("the currency", x.quantity(ASSET, 0, 9), 0);
        due("no such commodity", x.quantity(ASSET, 5, 9), 0);
        due("no such commodity", x.quantity(ASSET, -1, 9), 0);
        due("no such account", x.quantity(9, 1, 9), 0);
        due("no such account", x.quantity(-1, 1, 9), 0);
        due("another kind", x.quantity(EQUITY, 1, 9), 0);
        yes("begin", x.begin(9));
        yes("acquire", x.acquire(8, 1, 1, 1));
        due("a draft is not seen", x.quantity(8, 1, 9), 250);
    }

    private static void lots() {
        LotBooks x = new LotBooks();
        due("open", x.open(ASSET, 0), 7);
        buy(x, 5, ASSET, 1, 3, 10);
        buy(x, 4, ASSET, 1, 4, 1000000);
        buy(x, 5, 7, 1, 9, 90);
        buy(x, 6, ASSET, 1, 5, 0);
        due("the oldest by booking", x.lot(ASSET, 1, 0), 4 * PLACE + 1000000);
        due("lot", x.lot(ASSET, 1, 1), 3 * PLACE + 10);
        due("a lot without cost", x.lot(ASSET, 1, 2), 5 * PLACE);
        due("not those below", x.lot(ASSET, 1, 3), LotBooks.NONE);
        due("lot", x.lot(7, 1, 0), 9 * PLACE + 90);
        due("k -1", x.lot(ASSET, 1, -1), LotBooks.NONE);
        due("k MAX", x.lot(ASSET, 1, Integer.MAX_VALUE), LotBooks.NONE);
        due("no such account", x.lot(8, 1, 0), LotBooks.NONE);
        due("no such account", x.lot(-1, 1, 0), LotBooks.NONE);
        due("the currency", x.lot(ASSET, 0, 0), LotBooks.NONE);
        due("no such commodity", x.lot(ASSET, 5, 0), LotBooks.NONE);
        sell(x, 7, ASSET, 1, 3, LotBooks.FIFO);
        due("3 of 4 of the oldest", x.weight(4, 0), -750000);
        due("the rest stays", x.lot(ASSET, 1, 0), PLACE + 250000);
        sell(x, 8, ASSET, 1, 6, LotBooks.LIFO);
        due("all of the newest and 1 of 3, rounded down", x.weight(5, 0), -3);
        due("oldest", x.lot(ASSET, 1, 0), PLACE + 250000);
        due("2 of 3 with the rest of the cost", x.lot(ASSET, 1, 1), 2 * PLACE + 7);
        due("the newest is gone", x.lot(ASSET, 1, 2), LotBooks.NONE);
        sell(x, 9, ASSET, 1, 2, LotBooks.FIFO);
        due("one whole and 1 of 2", x.weight(6, 0), -250003);
        due("what was next is the oldest", x.lot(ASSET, 1, 0), PLACE + 4);
        due("no other", x.lot(ASSET, 1, 1), LotBooks.NONE);
        due("another account's lots are untouched", x.lot(7, 1, 0), 9 * PLACE + 90);
    }

    private static void lotsByAverage() {
        LotBooks x = new LotBooks();
        buy(x, 1, ASSET, 1, 3, 10);
        buy(x, 1, ASSET, 1, 4, 15);
        buy(x, 1, ASSET, 2, 4, 15);
        sell(x, 2, ASSET, 1, 2, LotBooks.AVERAGE);
        due("25 * 2 / 7 down", x.weight(3, 0), -7);
        due("one lot", x.lot(ASSET, 1, 0), 5 * PLACE + 18);
        due("no other", x.lot(ASSET, 1, 1), LotBooks.NONE);
        due("another commodity is untouched", x.lot(ASSET, 2, 0), 4 * PLACE + 15);
        buy(x, 3, ASSET, 1, 1, 100);
        due("the merged one is older", x.lot(ASSET, 1, 0), 5 * PLACE + 18);
        due("the new one is newer", x.lot(ASSET, 1, 1), PLACE + 100);
        sell(x, 4, ASSET, 1, 2, LotBooks.LIFO);
        due("newest first", x.weight(5, 0), -103);
        due("lot", x.lot(ASSET, 1, 0), 4 * PLACE + 15);
        sell(x, 5, ASSET, 1, 4, LotBooks.AVERAGE);
        due("whole", x.weight(6, 0), -15);
        due("gone", x.lot(ASSET, 1, 0), LotBooks.NONE);

        LotBooks y = new LotBooks();
        for (int n = 0; n < 30; n++) {
            yes("begin", y.begin(1));
            for (int k = 0; k < 5; k++) {
                yes("acquire", y.acquire(ASSET, 1, 7, 1000000));
            }
            yes("rest", y.rest(EQUITY));
            due("commit", y.commit(), LotBooks.DONE);
        }
        sell(y, 2, ASSET, 1, 1000, LotBooks.AVERAGE);
        due("150000000 * 1000 / 1050, beyond an int on the way", y.weight(30, 0), -142857142);
        due("lot", y.lot(ASSET, 1, 0), 50 * PLACE + 7142858);
    }

    private static void printing() {
        LotBooks x = new LotBooks();
        due("open", x.open(ASSET, 0), 7);
        due("open", x.open(ASSET, 0), 8);
        due("open", x.open(7, 0), 9);
        yes("begin", x.begin(5));
        yes("money", x.money(ASSET, 26));
        yes("money", x.money(7, 37));
        yes("money", x.money(8, 48));
        yes("money", x.money(9, -55));
        yes("money", x.money(INCOME, -3));
        yes("rest", x.rest(EQUITY));
        due("commit", x.commit(), LotBooks.DONE);
        due("balance", x.balance(ASSET, 5), 56);
        due("balance", x.balance(7, 5), -18);
        due("balance", x.balance(EQUITY, 5), -53);
        // Roots: 5 r 6, 0, -6 r 7, -1 r 7, 0; 2 are lost: EQUITY and INCOME print one more.
        due("ASSET", x.printed(ASSET, 5, 10), 5);
        due("LIABILITY", x.printed(LIABILITY, 5, 10), 0);
        due("EQUITY", x.printed(EQUITY, 5, 10), -5);
        due("INCOME", x.printed(INCOME, 5, 10), 0);
        due("EXPENSE", x.printed(EXPENSE, 5, 10), 0);
        // Parts of ASSET: own 2 r 6, 7: -2 r 2, 8: 4 r 8; 5 - 4 is 1: 8 prints one more.
        due("7", x.printed(7, 5, 10), -2);
        due("8", x.printed(8, 5, 10), 5);
        // Parts of 7: own 3 r 7, 9: -6 r 5; -2 + 3 is 1: its own prints one more.
        due("9", x.printed(9, 5, 10), -6);
        due("in units of 1 what is there", x.printed(9, 5, 1), -55);
        due("in units of 1 what is there", x.printed(ASSET, 5, 1), 56);
        due("of another day", x.printed(ASSET, 4, 10), 0);
        due("INCOME at 4", x.printed(INCOME, 5, 4), -1);
        yes("close", x.close(6));
        due("with closings", x.printed(INCOME, 6, 1), 0);
        due("with closings", x.printed(RETAINED, 6, 1), -3);
        due("before them", x.printed(INCOME, 5, 1), -3);
        due("any int", x.printed(RETAINED, Integer.MAX_VALUE, 1), -3);
        due("any int", x.printed(ASSET, Integer.MIN_VALUE, 1), 0);
    }

    private static void printingTies() {
        LotBooks x = new LotBooks();
        due("open", x.open(ASSET, 0), 7);
        due("open", x.open(ASSET, 0), 8);
        due("open", x.open(ASSET, 0), 9);
        yes("begin", x.begin(0));
        yes("money", x.money(7, 15));
        yes("money", x.money(8, 15));
        yes("money", x.money(9, 15));
        yes("money", x.money(ASSET, -25));
        yes("rest", x.rest(LIABILITY));
        due("commit", x.commit(), LotBooks.DONE);
        due("ASSET", x.printed(ASSET, 0, 10), 2);
        due("LIABILITY", x.printed(LIABILITY, 0, 10), -2);
        // Own -3 r 5, then 1 r 5 thrice; 2 more: its own and 7 come first.
        due("7", x.printed(7, 0, 10), 2);
        due("8", x.printed(8, 0, 10), 1);
        due("9", x.printed(9, 0, 10), 1);

        LotBooks y = new LotBooks();
        yes("begin", y.begin(0));
        yes("money", y.money(ASSET, 5));
        yes("money", y.money(LIABILITY, -5));
        due("commit", y.commit(), LotBooks.DONE);
        due("the earlier root", y.printed(ASSET, 0, 10), 1);
        due("the later root", y.printed(LIABILITY, 0, 10), -1);
        LotBooks z = new LotBooks();
        yes("begin", z.begin(0));
        yes("money", z.money(ASSET, -5));
        yes("money", z.money(EXPENSE, 5));
        due("commit", z.commit(), LotBooks.DONE);
        due("the earlier root", z.printed(ASSET, 0, 10), 0);
        due("the later root", z.printed(EXPENSE, 0, 10), 0);
    }

    private static void printingLimits() {
        LotBooks x = new LotBooks();
        move(x, 0, ASSET, EQUITY, 1000000);
        move(x, 0, ASSET, EQUITY, 500000);
        move(x, 0, LIABILITY, EQUITY, 1);
        due("u 0", x.printed(ASSET, 0, 0), 0);
        due("u -1", x.printed(ASSET, 0, -1), 0);
        due("u MIN", x.printed(ASSET, 0, Integer.MIN_VALUE), 0);
        due("u 1000001", x.printed(ASSET, 0, 1000001), 0);
        due("u MAX", x.printed(ASSET, 0, Integer.MAX_VALUE), 0);
        due("no such account", x.printed(7, 0, 1), 0);
        due("no such account", x.printed(-1, 0, 1), 0);
        due("the greatest unit", x.printed(ASSET, 0, 1000000), 2);
        due("the greatest unit", x.printed(LIABILITY, 0, 1000000), 0);
        due("the greatest unit", x.printed(EQUITY, 0, 1000000), -2);
        due("deep down", x.printed(RETAINED, 0, 1000000), 0);
    }
}
