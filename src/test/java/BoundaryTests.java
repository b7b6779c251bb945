// Each sentence of the document that names a boundary, by its own words, with what is due on both
// sides of it. Why calls are refused, and that they change nothing then, is in RefusalTests.
public final class BoundaryTests {
    private static final Report REPORT = new Report();

    public static void main(String[] args) {
        calls();
        days();
        commodities();
        accounts();
        usableDays();
        below();
        drafts();
        order();
        fullTransactions();
        releasedQuantities();
        oldestAndNewest();
        averages();
        costsRoundedDown();
        rests();
        balanced();
        bookedInPlace();
        postedAndHeld();
        checks();
        prices();
        pricesThatHold();
        closings();
        adjustments();
        carriedToRetained();
        balances();
        reopened();
        printedRoots();
        printedParts();
        printedTies();
        printedUnits();
        whatThereIsNot();
        anyInt();
        beyondAnInt();
        allFullAtOnce();
        REPORT.end();
    }

    /** On one new object: calls that must be taken, then calls with their answers, "count = 0". */
    private static void answers(String sentence, String state, String... rows) {
        Script script = new Script();
        String hitch = script.prepare(state);
        REPORT.holds(sentence + ": set-up is refused: " + hitch, hitch == null);
        for (String row : rows) {
            String[] sides = row.split(" = ");
            REPORT.due(sentence + ": " + sides[0], script.call(sides[0]), Script.valueOf(sides[1]));
        }
    }

    /** A transaction that brings an account money from EQUITY. */
    private static String gift(int day, String account, int amount) {
        return "begin " + day + "; money " + account + " " + amount + "; rest EQUITY; commit; ";
    }

    /** A transaction that brings ASSET a lot of commodity 1. */
    private static String lot(int day, int quantity, int cost) {
        return "begin " + day + "; acquire ASSET 1 " + quantity + " " + cost + "; rest EQUITY; commit; ";
    }

    /** A transaction that takes a quantity of commodity 1 from ASSET. */
    private static String sale(int day, int quantity, String how) {
        return "begin " + day + "; release ASSET 1 " + quantity + " " + how + "; rest INCOME; commit; ";
    }

    private static void calls() {
        answers("An object is used for at most 512 calls: it answers the last of them",
                gift(5, "ASSET", 7) + Script.times(505, "count"),
                "balance ASSET 5 = 7", "begin 9999 = true", "commit = DONE");
        answers("Each of 512 calls may begin or drop a draft",
                Script.times(255, "begin 5; drop"), "begin 5 = true", "commit = DONE");
        answers("Each of 512 calls may make or take back a closing",
                lot(5, 1, 1) + "price 1 5 3; " + Script.times(252, "close 9; reopen"), "close 9 = true",
                "profit 0 = 2", "balance ASSET 9 = 3");
    }

    private static void days() {
        answers("DAYS are 0 .. 9999: the first day",
                "open ASSET 0; price 1 0 7; check ASSET 0 0; begin 0; acquire 7 1 1 3; rest EQUITY",
                "commit = LATER", "drop = true", "begin 0 = true", "acquire 7 1 1 3 = true",
                "rest ASSET = true", "commit = DONE", "close 0 = true", "balance 7 0 = 7", "balance 7 -1 = 0",
                "priceOn 1 -1 = NONE", "priceOn 1 0 = 7", "quantity 7 1 -1 = 0", "quantity 7 1 0 = 1");
        answers("DAYS are 0 .. 9999: the last day",
                "open ASSET 9999; price 1 9999 7; begin 9999; acquire 7 1 1 3; rest EQUITY; commit; "
                        + "check ASSET 9999 3; close 9999",
                "balance 7 9998 = 0", "balance 7 9999 = 7", "balance 7 10000 = 7", "priceOn 1 9998 = NONE",
                "priceOn 1 9999 = 7", "priceOn 1 10000 = 7", "quantity 7 1 9998 = 0", "quantity 7 1 9999 = 1",
                "profit 0 = 4", "begin 9999 = false", "close 9999 = false");
    }

    private static void commodities() {
        answers("COMMODITY 0 is the CURRENCY, 1 .. 4 are other commodities",
                "begin 5; acquire ASSET 1 10 1; acquire ASSET 2 20 2; acquire ASSET 3 30 3; "
                        + "acquire ASSET 4 40 4; rest EQUITY; commit; price 1 5 1; price 2 5 2; price 3 5 3; "
                        + "price 4 5 4",
                "quantity ASSET 0 5 = 0", "quantity ASSET 1 5 = 10", "quantity ASSET 2 5 = 20",
                "quantity ASSET 3 5 = 30", "quantity ASSET 4 5 = 40", "quantity ASSET 5 5 = 0",
                "lot ASSET 0 0 = NONE", "lot ASSET 1 0 = 10:1", "lot ASSET 4 0 = 40:4", "lot ASSET 5 0 = NONE",
                "priceOn 0 5 = NONE", "priceOn 1 5 = 1", "priceOn 4 5 = 4", "priceOn 5 5 = NONE",
                "close 5 = true", "balance ASSET 5 = 300", "profit 0 = 290");
    }

    private static void accounts() {
        answers("there are at most 24: the last one can be used as any other",
                Script.times(16, "open ASSET 0"), "open ASSET 3 = 23", "open ASSET 3 = NONE", "begin 3 = true",
                "acquire 23 1 2 9 = true", "rest EQUITY = true", "money 24 1 = false", "commit = DONE",
                "price 1 3 7 = true", "check 23 3 9 = true", "close 3 = true", "balance 23 3 = 14",
                "quantity 23 1 3 = 2", "lot 23 1 0 = 2:9", "printed 23 3 2 = 7", "balance 24 3 = 0",
                "quantity 24 1 3 = 0", "lot 24 1 0 = NONE", "printed 24 3 2 = 0");
        answers("ACCOUNTS are numbered in the order in which they were opened", "",
                "open RETAINED 9 = 7", "open 7 0 = 8", "open UNREALISED 5 = 9");
        answers("a PARENT, an account that was there before it: not itself", "",
                "open 7 0 = NONE", "open 6 0 = 7", "open 8 0 = NONE", "open 7 0 = 8");
        answers("These seven are there from the beginning",
                "begin 0; money ASSET 1; money LIABILITY 20; money EQUITY 300; money INCOME 4000; "
                        + "money EXPENSE 50000; rest RETAINED; commit; "
                        + "begin 0; money UNREALISED 600000; rest EXPENSE; commit",
                "balance ASSET 0 = 1", "balance LIABILITY 0 = 20", "balance EQUITY 0 = -54021",
                "balance INCOME 0 = 604000", "balance EXPENSE 0 = -550000", "balance UNREALISED 0 = 600000",
                "balance RETAINED 0 = -54321", "balance 7 0 = 0");
    }

    private static void usableDays() {
        answers("it can be used from its own day on", "open ASSET 6; begin 5",
                "money 7 1 = false", "rest 7 = false", "drop = true", "begin 6 = true", "money 7 1 = true",
                "acquire 7 1 1 1 = true", "release 7 1 1 FIFO = true", "rest 7 = true", "commit = DONE");
        answers("its own day, not its parent's", "open ASSET 6; open 7 4; begin 4",
                "money 7 1 = false", "money 8 1 = true", "acquire 8 1 1 1 = true", "rest EQUITY = true",
                "commit = DONE", "balance 7 4 = 2");
        answers("its own day, not that of a closing", "close 9; open ASSET 3; begin 10",
                "money 7 1 = true", "rest EQUITY = true", "commit = DONE");
    }

    private static void below() {
        String chain = "";
        for (int parent = 6; parent < 23; parent++) {
            chain += "open " + (parent == 6 ? "EXPENSE" : "" + parent) + " 0; ";
        }
        answers("BELOW an account are the accounts whose parent it is, and those below these: 17 deep",
                chain + gift(5, "23", 7) + gift(5, "7", 10),
                "balance 23 5 = 7", "balance 22 5 = 7", "balance 8 5 = 7", "balance 7 5 = 17",
                "balance EXPENSE 5 = 17", "balance INCOME 5 = 0", "printed 23 5 5 = 1", "printed 7 5 5 = 3",
                "close 5 = true", "balance 23 5 = 0", "balance EXPENSE 5 = 0", "profit 0 = -17");
    }

    private static void drafts() {
        answers("a DRAFT (one at a time), of which nothing is seen, until it is committed",
                "begin 5; acquire ASSET 1 3 7; rest EQUITY",
                "count = 0", "weight 0 0 = 0", "balance ASSET 9 = 0", "quantity ASSET 1 9 = 0",
                "lot ASSET 1 0 = NONE", "printed ASSET 9 1 = 0", "check ASSET 9 0 = true", "begin 5 = false",
                "commit = LATER", "acquire ASSET 2 1 1 = true", "drop = true", "begin 10 = true",
                "acquire ASSET 1 3 7 = true", "rest EQUITY = true", "commit = DONE", "count = 1",
                "weight 0 0 = 7", "balance ASSET 10 = 7", "quantity ASSET 1 10 = 3", "lot ASSET 1 0 = 3:7",
                "printed ASSET 10 1 = 7");
        answers("Begins a draft of a day, without postings", "begin 5; money ASSET 3; drop; begin 5",
                "commit = DONE", "weight 0 0 = 0");
        answers("When it is not DONE the draft stays as it is", "begin 5; money ASSET 3",
                "commit = UNBALANCED", "commit = UNBALANCED", "begin 5 = false", "money EQUITY -3 = true",
                "commit = DONE", "weight 0 0 = 3", "weight 0 1 = -3", "weight 0 2 = 0", "drop = false");
    }

    private static void order() {
        answers("IN ORDER of their days, those of one day in the order in which they were committed",
                gift(5, "ASSET", 50) + gift(9999, "ASSET", 90) + gift(0, "ASSET", 1) + gift(5, "ASSET", 51)
                        + gift(4, "ASSET", 40) + gift(6, "ASSET", 60) + gift(0, "ASSET", 2),
                "weight 0 0 = 1", "weight 1 0 = 2", "weight 2 0 = 40", "weight 3 0 = 50", "weight 4 0 = 51",
                "weight 5 0 = 60", "weight 6 0 = 90");
        String many = "";
        for (int n = 0; n < 39; n++) {
            many += gift(9000 - n, "ASSET", 100 + n);
        }
        answers("there are at most 40, and each but the first finds its place before all others", many,
                "count = 39", "begin 8961 = true", "money ASSET 7 = true", "rest EQUITY = true",
                "commit = DONE", "count = 40", "weight 0 0 = 7", "weight 1 0 = 138", "weight 39 0 = 100",
                "weight 39 1 = -100", "weight 40 0 = 0", "begin 9999 = false", "balance ASSET 9000 = 4648");
    }

    private static void fullTransactions() {
        answers("at most 6 POSTINGS, in the order in which they were added",
                "begin 5; money ASSET 1; acquire ASSET 1 1 20; rest EQUITY; acquire ASSET 1 1 300; "
                        + "release ASSET 1 1 LIFO",
                "money LIABILITY 4000 = true", "money ASSET 1 = false", "acquire ASSET 1 1 1 = false",
                "release ASSET 1 1 FIFO = false", "commit = DONE", "weight 0 0 = 1", "weight 0 1 = 20",
                "weight 0 2 = -4021", "weight 0 3 = 300", "weight 0 4 = -300", "weight 0 5 = 4000",
                "weight 0 6 = 0", "weight 0 -1 = 0", "weight -1 0 = 0", "weight 1 0 = 0");
        String full = "begin 9; " + Script.times(3, "money ASSET 7; money EQUITY -7") + "; commit; ";
        answers("posting k (0 .. 5): not the next transaction's", full + full, "weight 0 5 = -7", "weight 0 6 = 0",
                "weight 1 -1 = 0", "weight 1 0 = 7", "weight 1 6 = 0");
        answers("0 when there is none: where a full transaction stood before", full + "begin 4; commit; " + full
                        + "begin 4; rest EQUITY; commit",
                "weight 0 0 = 0", "weight 0 5 = 0", "weight 1 0 = 0", "weight 1 1 = 0", "weight 1 5 = 0",
                "weight 2 5 = -7", "weight 3 5 = -7", "weight 4 0 = 0");
    }

    private static void releasedQuantities() {
        for (String how : new String[] {"FIFO", "LIFO", "AVERAGE"}) {
            answers("Beginning without any lots, the transactions are booked: " + how,
                    "begin 5; release ASSET 1 1 " + how + "; rest INCOME", "commit = SHORT");
            answers("Beginning without any lots: without those of a draft that was not committed: " + how,
                    "begin 5; acquire ASSET 1 9 7",
                    "commit = UNBALANCED", "drop = true", "begin 5 = true", "release ASSET 1 1 " + how + " = true",
                    "rest INCOME = true", "commit = SHORT", "lot ASSET 1 0 = NONE");
            answers("If all these lots together have less, the transaction is SHORT: " + how,
                    lot(5, 3, 10) + lot(5, 4, 50) + "begin 5; release ASSET 1 8 " + how + "; rest INCOME",
                    "commit = SHORT", "lot ASSET 1 0 = 3:10", "lot ASSET 1 1 = 4:50", "drop = true");
            answers("lots that together have just as much: " + how,
                    lot(5, 3, 10) + lot(5, 4, 50) + "begin 5; release ASSET 1 7 " + how + "; rest INCOME",
                    "commit = DONE", "weight 2 0 = -60", "weight 2 1 = 60", "lot ASSET 1 0 = NONE",
                    "quantity ASSET 1 5 = 0");
            answers("A lot that is taken whole gives all its cost and is gone: " + how,
                    lot(5, 7, 10) + sale(5, 7, how), "weight 1 0 = -10", "lot ASSET 1 0 = NONE");
            answers("after a lot that is gone another comes to be: " + how,
                    lot(5, 7, 10) + sale(5, 7, how) + lot(5, 2, 9) + sale(5, 1, how),
                    "weight 3 0 = -4", "lot ASSET 1 0 = 1:5", "lot ASSET 1 1 = NONE");
        }
        answers("the lots of its account (not of those below it)",
                "open ASSET 0; begin 5; acquire ASSET 1 2 8; acquire 7 1 3 30; rest EQUITY; commit; "
                        + "begin 5; release ASSET 1 2 AVERAGE; release 7 1 1 AVERAGE; rest INCOME; commit",
                "weight 1 0 = -8", "weight 1 1 = -10", "lot ASSET 1 0 = NONE", "lot 7 1 0 = 2:20");
        answers("the most that one posting gives away", lot(5, 1000, 1000000) + lot(5, 1, 3) + sale(5, 1000, "FIFO"),
                "weight 2 0 = -1000000", "lot ASSET 1 0 = 1:3", "lot ASSET 1 1 = NONE");
    }

    private static void oldestAndNewest() {
        String three = lot(5, 3, 10) + lot(5, 4, 50) + lot(5, 5, 90);
        answers("FIFO takes from the oldest lot first: one less than it has", three + sale(5, 2, "FIFO"),
                "weight 3 0 = -6", "lot ASSET 1 0 = 1:4", "lot ASSET 1 1 = 4:50", "lot ASSET 1 2 = 5:90");
        answers("FIFO takes from the oldest lot first: just what it has", three + sale(5, 3, "FIFO"),
                "weight 3 0 = -10", "lot ASSET 1 0 = 4:50", "lot ASSET 1 1 = 5:90", "lot ASSET 1 2 = NONE");
        answers("then from the oldest that is left, and so on: one more", three + sale(5, 4, "FIFO"),
                "weight 3 0 = -22", "lot ASSET 1 0 = 3:38", "lot ASSET 1 1 = 5:90", "lot ASSET 1 2 = NONE");
        answers("then from the oldest that is left, and so on: into the last", three + sale(5, 8, "FIFO"),
                "weight 3 0 = -78", "lot ASSET 1 0 = 4:72", "lot ASSET 1 1 = NONE");
        answers("LIFO likewise from the newest: one less than it has", three + sale(5, 4, "LIFO"),
                "weight 3 0 = -72", "lot ASSET 1 0 = 3:10", "lot ASSET 1 1 = 4:50", "lot ASSET 1 2 = 1:18");
        answers("LIFO likewise from the newest: just what it has", three + sale(5, 5, "LIFO"),
                "weight 3 0 = -90", "lot ASSET 1 0 = 3:10", "lot ASSET 1 1 = 4:50", "lot ASSET 1 2 = NONE");
        answers("LIFO likewise from the newest: one more", three + sale(5, 6, "LIFO"),
                "weight 3 0 = -102", "lot ASSET 1 0 = 3:10", "lot ASSET 1 1 = 3:38", "lot ASSET 1 2 = NONE");
        answers("LIFO likewise from the newest: into the first", three + sale(5, 10, "LIFO"),
                "weight 3 0 = -143", "lot ASSET 1 0 = 2:7", "lot ASSET 1 1 = NONE");
    }

    private static void averages() {
        answers("AVERAGE first makes one lot of all lots: one of them", lot(5, 3, 10) + sale(5, 1, "AVERAGE"),
                "weight 1 0 = -3", "lot ASSET 1 0 = 2:7", "lot ASSET 1 1 = NONE");
        answers("which they stay from then on", lot(5, 3, 10) + lot(5, 4, 50) + sale(5, 1, "AVERAGE")
                        + lot(5, 1, 9),
                "weight 2 0 = -8", "lot ASSET 1 0 = 6:52", "lot ASSET 1 1 = 1:9", "lot ASSET 1 2 = NONE");
        answers("which they stay from then on: for FIFO and LIFO too", lot(5, 3, 10) + lot(5, 4, 50)
                        + sale(5, 1, "AVERAGE") + lot(5, 1, 9) + sale(6, 2, "FIFO") + sale(6, 2, "LIFO"),
                "weight 4 0 = -17", "weight 5 0 = -17", "lot ASSET 1 0 = 3:27", "lot ASSET 1 1 = NONE");
        answers("of the account and commodity alone", "open ASSET 0; begin 5; acquire ASSET 2 5 5; "
                        + "acquire 7 1 6 6; rest EQUITY; commit; begin 5; acquire ASSET 2 5 5; acquire 7 1 6 6; "
                        + "rest EQUITY; commit; " + lot(5, 3, 10) + lot(5, 4, 50) + sale(5, 1, "AVERAGE"),
                "lot ASSET 1 0 = 6:52", "lot ASSET 2 0 = 5:5", "lot ASSET 2 1 = 5:5", "lot 7 1 0 = 6:6",
                "lot 7 1 1 = 6:6");
    }

    private static void costsRoundedDown() {
        answers("the cost taken is c * m / n rounded down: nothing to round", lot(5, 5, 10) + sale(5, 2, "FIFO"),
                "weight 1 0 = -4", "lot ASSET 1 0 = 3:6");
        answers("the cost taken is c * m / n rounded down: just below", lot(5, 5, 9) + sale(5, 1, "FIFO"),
                "weight 1 0 = -1", "lot ASSET 1 0 = 4:8");
        answers("the cost taken is c * m / n rounded down: just above", lot(5, 5, 11) + sale(5, 1, "FIFO"),
                "weight 1 0 = -2", "lot ASSET 1 0 = 4:9");
        answers("a cost of 0", lot(5, 5, 0) + sale(5, 1, "FIFO"), "weight 1 0 = 0", "weight 1 1 = 0",
                "lot ASSET 1 0 = 4:0");
        answers("a cost of less than the quantity", lot(5, 1000, 1) + sale(5, 999, "LIFO"), "weight 1 0 = 0",
                "lot ASSET 1 0 = 1:1");
        answers("the greatest of one lot", lot(5, 1000, 1000000) + sale(5, 999, "FIFO"), "weight 1 0 = -999000",
                "lot ASSET 1 0 = 1:1000");
        answers("n - m and the rest of the cost stay, time after time",
                lot(5, 4, 10) + sale(5, 1, "FIFO") + sale(5, 1, "FIFO") + sale(5, 1, "FIFO") + sale(5, 1, "FIFO"),
                "weight 1 0 = -2", "weight 2 0 = -2", "weight 3 0 = -3", "weight 4 0 = -3",
                "lot ASSET 1 0 = NONE");
        answers("c * m beyond an int", lot(5, 500, 1000000) + lot(5, 500, 1000000) + lot(5, 500, 1000000)
                        + sale(5, 1000, "AVERAGE"),
                "weight 3 0 = -2000000", "lot ASSET 1 0 = 500:1000000");
        answers("c * m beyond an int, rounded down", lot(5, 1000, 999999) + lot(5, 1000, 1000000)
                        + lot(5, 1000, 1000000) + sale(5, 998, "AVERAGE"),
                "weight 3 0 = -997999", "lot ASSET 1 0 = 2002:2002000");
    }

    private static void rests() {
        answers("REST (at most one in a transaction)", "begin 5; rest EQUITY", "rest ASSET = false",
                "rest EQUITY = false", "commit = DONE", "weight 0 0 = 0", "weight 0 1 = 0", "begin 5 = true",
                "rest ASSET = true");
        answers("minus the sum of the weights of the other postings, those behind it too",
                "begin 5; money ASSET 1; rest EQUITY; money ASSET 20; acquire ASSET 1 1 300; commit",
                "weight 0 1 = -321");
        answers("the rest of what sums to 0", "begin 5; money ASSET 1; rest EQUITY; money ASSET -1; commit",
                "weight 0 1 = 0");
        answers("the greatest rest of amounts", "begin 5; rest EQUITY; " + Script.times(5, "money ASSET 1000000"),
                "commit = DONE", "weight 0 0 = -5000000", "balance EQUITY 5 = -5000000");
        answers("the least rest of amounts", "begin 5; rest EQUITY; " + Script.times(5, "money ASSET -1000000"),
                "commit = DONE", "weight 0 0 = 5000000", "balance EQUITY 5 = 5000000");
    }

    private static void balanced() {
        answers("weights do not sum to 0: one too much", "begin 5; money ASSET 8; money EQUITY -7",
                "commit = UNBALANCED", "money INCOME -1 = true", "commit = DONE");
        answers("weights do not sum to 0: one too little", "begin 5; money ASSET 6; money EQUITY -7",
                "commit = UNBALANCED", "money INCOME 1 = true", "commit = DONE");
        answers("(Without any postings they do.)", "begin 5", "commit = DONE", "count = 1", "weight 0 0 = 0");
        answers("a lot without cost balances alone", "begin 5; acquire ASSET 1 1 0", "commit = DONE",
                "lot ASSET 1 0 = 1:0");
        answers("the greatest amounts balance", "begin 5; " + Script.times(3, "money ASSET 1000000") + "; "
                + Script.times(3, "money EQUITY -1000000"), "commit = DONE", "balance ASSET 5 = 3000000");
    }

    private static void bookedInPlace() {
        String sold = lot(5, 4, 40) + sale(6, 4, "FIFO");
        answers("A transaction whose place is before others is booked in its place: before the lot",
                sold + lot(4, 1, 99), "weight 2 0 = -129", "lot ASSET 1 0 = 1:10");
        answers("booked in its place: on the lot's day, behind it", sold + lot(5, 1, 99),
                "weight 2 0 = -40", "lot ASSET 1 0 = 1:99");
        answers("booked in its place: on the release's day, behind it", sold + lot(6, 1, 99),
                "weight 1 0 = -40", "weight 2 0 = 99", "lot ASSET 1 0 = 1:99");
        answers("those behind it may be short then: just enough is left",
                lot(4, 5, 50) + sale(6, 4, "FIFO") + sale(5, 1, "FIFO"), "lot ASSET 1 0 = NONE");
        answers("those behind it may be short then: one too little is left",
                lot(4, 5, 50) + sale(6, 4, "FIFO") + "begin 5; release ASSET 1 2 FIFO; rest INCOME",
                "commit = LATER", "lot ASSET 1 0 = 1:10", "drop = true", "begin 6 = true",
                "release ASSET 1 2 FIFO = true", "rest INCOME = true", "commit = SHORT");
        answers("those behind it may be unbalanced then",
                lot(4, 4, 40) + "begin 6; release ASSET 1 2 FIFO; money EXPENSE 20; commit; "
                        + "begin 3; acquire ASSET 1 1 11; rest EQUITY",
                "commit = LATER", "weight 1 0 = -20", "drop = true", "begin 3 = true",
                "acquire ASSET 1 1 10 = true", "rest EQUITY = true", "commit = DONE", "weight 2 0 = -20");
        answers("a REST behind it takes up other weights",
                lot(4, 4, 40) + sale(6, 2, "FIFO") + lot(3, 1, 11), "weight 2 0 = -21", "weight 2 1 = 21");
        answers("the first of these that is so: SHORT, then UNBALANCED, then LATER",
                "check LIABILITY 5 0; begin 5; money LIABILITY 1; release ASSET 1 1 FIFO",
                "commit = SHORT", "drop = true", "begin 5 = true", "money LIABILITY 1 = true",
                "commit = UNBALANCED", "rest EQUITY = true", "commit = LATER");
    }

    private static void postedAndHeld() {
        answers("up to that day (the day itself included): posted",
                gift(4, "ASSET", 1) + gift(5, "ASSET", 20) + gift(6, "ASSET", 300),
                "check ASSET 3 0 = true", "check ASSET 4 1 = true", "check ASSET 5 21 = true",
                "check ASSET 6 321 = true", "check ASSET 5 1 = false", "check ASSET 5 321 = false");
        answers("the account and the accounts below it: posted",
                "open ASSET 0; open 7 0; open ASSET 0; " + gift(5, "ASSET", 1) + gift(5, "7", 20) + gift(5, "8", 300)
                        + gift(5, "9", 4000),
                "check ASSET 5 4321 = true", "check 7 5 320 = true", "check 8 5 300 = true", "check 9 5 4000 = true");
        answers("what closings have added is not posted", gift(5, "INCOME", -7) + "close 5",
                "check INCOME 5 0 = false", "check INCOME 5 -7 = true", "check RETAINED 5 0 = true");
        answers("HELD: in the transactions of days up to that day",
                lot(4, 10, 1) + lot(5, 200, 1) + sale(6, 50, "LIFO"),
                "quantity ASSET 1 3 = 0", "quantity ASSET 1 4 = 10", "quantity ASSET 1 5 = 210",
                "quantity ASSET 1 6 = 160", "quantity ASSET 2 6 = 0");
        answers("The sum of what the account and the accounts below it hold",
                "open ASSET 0; open 7 0; begin 5; acquire ASSET 1 1 0; acquire 7 1 20 0; acquire 8 1 300 0; commit",
                "quantity ASSET 1 5 = 321", "quantity 7 1 5 = 320", "quantity 8 1 5 = 300");
    }

    private static void checks() {
        String checked = gift(5, "LIABILITY", 7) + "check LIABILITY 5 7; ";
        answers("an amount that must always be what is posted: of the check's day",
                checked + "begin 5; money LIABILITY 1; rest ASSET", "commit = LATER");
        answers("an amount that must always be what is posted: of the day before",
                checked + "begin 4; money LIABILITY 1; rest ASSET", "commit = LATER");
        answers("an amount that must always be what is posted: not of the day after",
                checked + "begin 6; money LIABILITY 1; rest ASSET", "commit = DONE");
        answers("what sums to 0 leaves it", checked + "begin 5; money LIABILITY 1; rest LIABILITY", "commit = DONE");
        answers("what is below the account counts", "open LIABILITY 0; " + checked + "begin 5; money 7 1; rest ASSET",
                "commit = LATER");
        answers("what moves below the account does not",
                "open LIABILITY 0; " + checked + "begin 5; money 7 1; rest LIABILITY", "commit = DONE");
        answers("there are at most 10", Script.times(9, "check ASSET 5 0") + "; check LIABILITY 5 0",
                "check LIABILITY 5 0 = false", "begin 5 = true", "money LIABILITY 1 = true",
                "rest EQUITY = true", "commit = LATER", "drop = true", "begin 5 = true",
                "money EXPENSE 1 = true", "rest EQUITY = true", "commit = DONE");
        answers("a check of a day up to a closing's day", gift(5, "ASSET", 7) + "close 9", "check ASSET 5 7 = true",
                "check ASSET 9 7 = true");
    }

    private static void prices() {
        String many = "";
        for (int n = 0; n < 29; n++) {
            many += "price " + (1 + n % 4) + " " + n + " " + n + "; ";
        }
        answers("there are at most 30 such prices", many, "price 4 9999 7 = true", "price 4 9998 7 = false",
                "price 1 9999 7 = false", "priceOn 4 9999 = 7", "priceOn 4 9998 = 27", "priceOn 1 9999 = 28");
        answers("becomes p, also when it has one there: of 30 too",
                many + "price 4 9999 7; price 4 9999 8; price 1 0 9",
                "priceOn 4 9999 = 8", "priceOn 1 0 = 9", "priceOn 1 4 = 4", "price 2 0 7 = false");
        answers("a price that is there takes no room when it becomes another",
                Script.times(31, "price 1 5 7") + "; price 1 6 8", "priceOn 1 5 = 7", "priceOn 1 6 = 8");
        answers("p is 0 .. 10000", "price 1 5 0; price 2 5 10000", "priceOn 1 5 = 0", "priceOn 2 5 = 10000",
                "price 1 5 -1 = false", "price 2 5 10001 = false", "priceOn 1 5 = 0", "priceOn 2 5 = 10000");
    }

    private static void pricesThatHold() {
        answers("the one of the latest day, up to that day",
                "price 1 20 200; price 1 10 100; price 1 30 0",
                "priceOn 1 9 = NONE", "priceOn 1 10 = 100", "priceOn 1 11 = 100", "priceOn 1 19 = 100",
                "priceOn 1 20 = 200", "priceOn 1 29 = 200", "priceOn 1 30 = 0", "priceOn 1 9999 = 0");
        answers("of that commodity", "price 1 10 100; price 2 20 200", "priceOn 1 20 = 100", "priceOn 2 19 = NONE",
                "priceOn 2 20 = 200", "priceOn 3 20 = NONE");
    }

    private static void closings() {
        answers("no transaction and no price of a day up to its day can be added", "close 5",
                "begin 4 = false", "begin 5 = false", "price 1 4 7 = false", "price 1 5 7 = false",
                "price 1 6 7 = true", "begin 6 = true");
        answers("a day that is later than that of every closing before it", "close 3; close 5",
                "close 4 = false", "close 5 = false", "close 6 = true", "close 9999 = true");
        answers("there are at most 8", "close 0; close 1; close 2; close 3; close 4; close 5; close 6",
                "close 7 = true", "close 8 = false", "begin 8 = true", "drop = true", "reopen = true",
                "begin 7 = true", "drop = true", "close 8 = true", "close 9 = false");
        answers("The profit of closing k (from 0 on, the earliest first)",
                gift(1, "EXPENSE", 1) + gift(2, "EXPENSE", 20) + gift(3, "INCOME", -300) + "close 1; close 2; close 9",
                "profit -1 = 0", "profit 0 = -1", "profit 1 = -20", "profit 2 = 300", "profit 3 = 0");
    }

    private static void adjustments() {
        answers("or 0, if no price holds: one of the day after", lot(5, 2, 9) + "price 1 6 7; close 5",
                "balance ASSET 5 = 9", "profit 0 = 0");
        answers("the price that holds then: one of the closing's day", lot(5, 2, 9) + "price 1 5 7; close 5",
                "balance ASSET 5 = 14", "balance UNREALISED 5 = 0", "profit 0 = 5");
        answers("a price of 0 holds", lot(5, 2, 9) + "price 1 5 0; close 5", "balance ASSET 5 = 0", "profit 0 = -9");
        answers("the greatest price", lot(5, 1000, 0) + "price 1 5 10000; close 5", "balance ASSET 5 = 10000000",
                "profit 0 = 10000000");
        answers("the quantity that the account holds on the closing's day",
                lot(4, 1, 1) + lot(5, 20, 2) + lot(6, 300, 3) + "price 1 5 10; close 5",
                "balance ASSET 4 = 1", "balance ASSET 5 = 210", "balance ASSET 6 = 213", "profit 0 = 207");
        answers("less the cost of that: what stays after a release", lot(5, 3, 10) + sale(5, 1, "FIFO")
                        + "price 1 5 5; close 5",
                "balance ASSET 5 = 10", "profit 0 = 0", "balance RETAINED 5 = 0");
        answers("What it has grown by since the closing before", lot(5, 2, 9) + "price 1 5 7; close 5; close 6; "
                        + "price 1 7 8; close 7; price 1 8 1; close 8",
                "profit 0 = 5", "profit 1 = 0", "profit 2 = 2", "profit 3 = -14", "balance ASSET 5 = 14",
                "balance ASSET 6 = 14", "balance ASSET 7 = 16", "balance ASSET 8 = 2");
        answers("(Before the first closing adjustments are 0.) and again when nothing is held",
                lot(5, 2, 9) + "price 1 5 7; close 5; " + sale(6, 2, "FIFO") + "close 6",
                "balance ASSET 5 = 14", "balance ASSET 6 = 0", "profit 1 = -14");
        answers("each account has its own", "open ASSET 0; begin 5; acquire ASSET 1 1 3; acquire 7 1 2 9; rest EQUITY; "
                + "commit; price 1 5 7; close 5", "balance ASSET 5 = 21", "balance 7 5 = 14", "profit 0 = 9");
    }

    private static void carriedToRetained() {
        answers("of days up to that day", gift(4, "INCOME", -1) + gift(5, "INCOME", -20) + gift(6, "INCOME", -300)
                        + "close 5",
                "balance INCOME 4 = -1", "balance INCOME 5 = 0", "balance INCOME 6 = -300",
                "balance RETAINED 4 = 0", "balance RETAINED 5 = -21", "balance RETAINED 6 = -21", "profit 0 = 21");
        answers("each account of kind INCOME or EXPENSE, and no other",
                "open INCOME 0; open EXPENSE 0; open LIABILITY 0; open RETAINED 0; "
                        + gift(5, "7", -1) + gift(5, "8", 20) + gift(5, "9", -300) + gift(5, "10", -4000) + "close 5",
                "balance 7 5 = 0", "balance 8 5 = 0", "balance 9 5 = -300", "balance 10 5 = -4000",
                "balance RETAINED 5 = -3981", "profit 0 = -19");
        answers("its own postings: UNREALISED's too", gift(5, "UNREALISED", -7) + lot(5, 1, 1) + "price 1 5 3; close 5",
                "balance UNREALISED 5 = 0", "balance INCOME 5 = 0", "balance RETAINED 5 = -9", "profit 0 = 9");
        answers("of what closings have added: nothing is left for the next one",
                gift(5, "INCOME", -7) + "close 5; close 6", "profit 0 = 7", "profit 1 = 0", "balance INCOME 6 = 0",
                "balance RETAINED 6 = -7");
        answers("a closing of empty books", "close 0", "profit 0 = 0", "balance RETAINED 0 = 0");
    }

    private static void balances() {
        answers("what closings of days up to that day have added",
                lot(5, 2, 9) + gift(5, "INCOME", -30) + "price 1 5 7; close 7; price 1 8 8; close 8",
                "balance ASSET 6 = 9", "balance ASSET 7 = 14", "balance ASSET 8 = 16", "balance RETAINED 6 = 0",
                "balance RETAINED 7 = -35", "balance RETAINED 8 = -37", "balance INCOME 6 = -30",
                "balance INCOME 7 = 0", "balance EQUITY 6 = 21", "balance EQUITY 7 = -14");
        Script script = new Script();
        script.prepare(lot(1, 7, 100) + gift(2, "LIABILITY", -31) + gift(3, "EXPENSE", 13) + sale(4, 2, "LIFO")
                + "price 1 2 11; price 1 6 23; close 3; close 6");
        for (int day = -1; day <= 7; day++) {
            long sum = 0;
            for (int root = 0; root < 5; root++) {
                sum += script.call("balance " + root + " " + day);
            }
            REPORT.due("The balances of the five roots sum to 0, on day " + day, sum, 0);
        }
    }

    private static void reopened() {
        String books = lot(5, 2, 9) + gift(5, "INCOME", -30) + "price 1 5 7; close 5; price 1 8 8; close 8; ";
        answers("Takes the latest closing back, as if it had not been made", books + "reopen",
                "profit 0 = 35", "profit 1 = 0", "balance ASSET 8 = 14", "begin 5 = false", "begin 6 = true",
                "drop = true", "close 8 = true", "profit 1 = 2", "balance ASSET 8 = 16");
        answers("and the first one too", books + "reopen; reopen", "reopen = false", "profit 0 = 0",
                "balance ASSET 9 = 9", "balance INCOME 9 = -30", "balance RETAINED 9 = 0", "begin 0 = true",
                "drop = true", "close 8 = true", "profit 0 = 37", "balance ASSET 8 = 16");
        answers("what was posted and priced since stays", books + gift(9, "ASSET", 100) + "price 1 9 1; reopen",
                "balance ASSET 9 = 114", "priceOn 1 9 = 1", "count = 3");
    }

    private static void printedRoots() {
        answers("the whole prints 0: nothing at all", "", "printed ASSET 5 10 = 0", "printed RETAINED 5 1 = 0");
        answers("the whole prints 0: nothing to round", gift(5, "ASSET", 20),
                "printed ASSET 5 10 = 2", "printed EQUITY 5 10 = -2");
        answers("b / u rounded down (towards the smaller number): below the half", gift(5, "ASSET", 24),
                "printed ASSET 5 10 = 2", "printed EQUITY 5 10 = -2");
        answers("b / u rounded down (towards the smaller number): above the half", gift(5, "ASSET", 26),
                "printed ASSET 5 10 = 3", "printed EQUITY 5 10 = -3");
        answers("of equal remainders the earlier parts: ASSET", gift(5, "ASSET", 25),
                "printed ASSET 5 10 = 3", "printed EQUITY 5 10 = -3");
        answers("of equal remainders the earlier parts: not INCOME", gift(5, "INCOME", 25),
                "printed EQUITY 5 10 = -2", "printed INCOME 5 10 = 2");
        answers("towards the smaller number: one below 0", gift(5, "ASSET", -1),
                "printed ASSET 5 10 = 0", "printed EQUITY 5 10 = 0", "printed ASSET 5 1 = -1");
        answers("towards the smaller number: nine below 0", gift(5, "ASSET", -9),
                "printed ASSET 5 10 = -1", "printed EQUITY 5 10 = 1");
        answers("those with the greatest remainders: none that has none",
                "begin 5; money ASSET 10; money LIABILITY 9; money INCOME 8; money EXPENSE -17; rest EQUITY; commit",
                "printed ASSET 5 10 = 1", "printed LIABILITY 5 10 = 1", "printed EQUITY 5 10 = -1",
                "printed INCOME 5 10 = 1", "printed EXPENSE 5 10 = -2");
        answers("those with the greatest remainders: as many as are lost, four of five",
                "begin 5; money ASSET 9; money LIABILITY 8; money INCOME 9; money EXPENSE 8; rest EQUITY; commit",
                "printed ASSET 5 10 = 1", "printed LIABILITY 5 10 = 1", "printed EQUITY 5 10 = -4",
                "printed INCOME 5 10 = 1", "printed EXPENSE 5 10 = 1");
    }

    private static void printedParts() {
        String three = "open ASSET 0; open ASSET 0; ";
        answers("its own balance without the accounts below it, first", three
                        + "begin 5; money ASSET 4; money 7 4; money 8 4; rest EQUITY; commit",
                "balance ASSET 5 = 12", "printed ASSET 5 10 = 1", "printed 7 5 10 = 0", "printed 8 5 10 = 0");
        answers("then the accounts whose parent it is: the greatest remainder", three
                        + "begin 5; money ASSET 4; money 7 4; money 8 5; rest EQUITY; commit",
                "printed ASSET 5 10 = 1", "printed 7 5 10 = 0", "printed 8 5 10 = 1");
        answers("in the order of their numbers", three
                        + "begin 5; money ASSET 3; money 7 4; money 8 4; rest EQUITY; commit",
                "printed ASSET 5 10 = 1", "printed 7 5 10 = 1", "printed 8 5 10 = 0");
        answers("parts of what prints no more than it is rounded down", three
                        + "begin 5; money ASSET -20; money 7 14; money 8 9; rest EQUITY; commit",
                "printed ASSET 5 10 = 0", "printed 7 5 10 = 1", "printed 8 5 10 = 1");
        answers("parts of what prints one more", "open ASSET 0; open 7 0; open 7 0; "
                        + "begin 5; money 7 2; money 8 3; money 9 3; rest EQUITY; commit",
                "printed ASSET 5 10 = 1", "printed 7 5 10 = 1", "printed 8 5 10 = 1", "printed 9 5 10 = 0");
        answers("an account without accounts below it is its own one part", "open ASSET 0; " + gift(5, "7", 26),
                "printed ASSET 5 10 = 3", "printed 7 5 10 = 3");
        answers("UNREALISED and RETAINED are parts too",
                "begin 5; money RETAINED -14; money UNREALISED 27; rest ASSET; commit",
                "printed ASSET 5 10 = -1", "printed EQUITY 5 10 = -2", "printed RETAINED 5 10 = -2",
                "printed INCOME 5 10 = 3", "printed UNREALISED 5 10 = 3");
    }

    private static void printedTies() {
        String four = "open ASSET 0; open ASSET 0; open ASSET 0; begin 5; money 7 15; money 8 15; money 9 15; ";
        answers("of equal remainders the earlier parts: its own and the first of the others",
                four + "money ASSET -5; rest EQUITY; commit",
                "printed ASSET 5 10 = 4", "printed 7 5 10 = 2", "printed 8 5 10 = 1", "printed 9 5 10 = 1");
        answers("of equal remainders the earlier parts: two of three, when its own has none",
                four + "money ASSET -10; rest EQUITY; commit",
                "printed ASSET 5 10 = 4", "printed 7 5 10 = 2", "printed 8 5 10 = 2", "printed 9 5 10 = 1");
    }

    private static void printedUnits() {
        String books = "begin 5; money ASSET 1000000; money LIABILITY 499999; rest EQUITY; commit";
        answers("u is 1 .. 1000000", books, "printed ASSET 5 0 = 0", "printed ASSET 5 1 = 1000000",
                "printed ASSET 5 2 = 500000", "printed ASSET 5 999999 = 1", "printed ASSET 5 1000000 = 1",
                "printed ASSET 5 1000001 = 0", "printed ASSET 5 -1 = 0", "printed ASSET 5 MIN = 0",
                "printed ASSET 5 MAX = 0", "printed LIABILITY 5 1000000 = 0", "printed EQUITY 5 1000000 = -1",
                "printed EQUITY 5 1 = -1499999");
        answers("with its balances of a day", books, "printed ASSET 4 1 = 0", "printed ASSET 5 1 = 1000000",
                "printed 7 5 1 = 0", "printed -1 5 1 = 0", "printed MIN 5 1 = 0", "printed MAX 5 1 = 0");
    }

    private static void whatThereIsNot() {
        String books = "open ASSET 0; begin 5; acquire 7 1 2 9; rest EQUITY; commit; price 1 5 7; close 5";
        answers("weight: 0 when there is none", books, "weight 0 0 = 9", "weight 0 1 = -9", "weight 0 2 = 0",
                "weight 0 5 = 0", "weight 0 6 = 0", "weight 0 -1 = 0", "weight 1 0 = 0", "weight -1 0 = 0",
                "weight MIN 0 = 0", "weight MAX 0 = 0", "weight 0 MIN = 0", "weight 0 MAX = 0", "weight MAX MAX = 0");
        answers("priceOn: NONE when none holds", books, "priceOn 1 4 = NONE", "priceOn 1 5 = 7",
                "priceOn 0 5 = NONE", "priceOn 2 5 = NONE", "priceOn -1 5 = NONE", "priceOn 5 5 = NONE",
                "priceOn MIN 5 = NONE", "priceOn MAX 5 = NONE");
        answers("profit: 0 when there is none", books, "profit 0 = 5", "profit 1 = 0", "profit -1 = 0",
                "profit 8 = 0", "profit MIN = 0", "profit MAX = 0");
        answers("balance: 0 when there is no such account", books, "balance 7 5 = 14", "balance 8 5 = 0",
                "balance -1 5 = 0", "balance 24 5 = 0", "balance MIN 5 = 0", "balance MAX 5 = 0");
        answers("quantity: 0 when there is no such account or the commodity is not 1 .. 4", books,
                "quantity 7 1 5 = 2", "quantity 8 1 5 = 0", "quantity -1 1 5 = 0", "quantity MIN 1 5 = 0",
                "quantity MAX 1 5 = 0", "quantity 7 0 5 = 0", "quantity 7 5 5 = 0", "quantity 7 -1 5 = 0",
                "quantity 7 MIN 5 = 0", "quantity 7 MAX 5 = 0");
        answers("lot: NONE when there is none", books, "lot 7 1 0 = 2:9", "lot 7 1 1 = NONE", "lot 7 1 -1 = NONE",
                "lot 7 1 MIN = NONE", "lot 7 1 MAX = NONE", "lot ASSET 1 0 = NONE", "lot 8 1 0 = NONE",
                "lot -1 1 0 = NONE", "lot MIN 1 0 = NONE", "lot MAX 1 0 = NONE", "lot 7 0 0 = NONE",
                "lot 7 2 0 = NONE", "lot 7 5 0 = NONE", "lot 7 MIN 0 = NONE", "lot 7 MAX 0 = NONE");
    }

    private static void anyInt() {
        answers("a day (any int): before all days and behind them",
                lot(0, 2, 9) + lot(9999, 3, 10) + "price 1 0 7; close 9999",
                "balance ASSET MIN = 0", "balance ASSET -1 = 0", "balance ASSET 10000 = 35",
                "balance ASSET MAX = 35", "quantity ASSET 1 MIN = 0", "quantity ASSET 1 -1 = 0",
                "quantity ASSET 1 10000 = 5", "quantity ASSET 1 MAX = 5", "priceOn 1 MIN = NONE",
                "priceOn 1 -1 = NONE", "priceOn 1 10000 = 7", "priceOn 1 MAX = 7", "printed ASSET MIN 1 = 0",
                "printed ASSET -1 1 = 0", "printed ASSET 10000 1 = 35", "printed ASSET MAX 1 = 35");
    }

    private static void beyondAnInt() {
        String lots = Script.times(30, "begin 5; " + Script.times(6, "acquire ASSET 1 1000 0") + "; commit") + "; "
                + Script.times(10, "begin 5; " + Script.times(6, "acquire ASSET 2 1000 0") + "; commit");
        answers("a worth beyond an int", lots + "; price 1 5 10000; price 2 5 10000; close 5; price 1 6 0; "
                        + "price 2 6 0; close 6",
                "balance ASSET 5 = 2400000000", "balance RETAINED 5 = -2400000000", "profit 0 = 2400000000",
                "profit 1 = -2400000000", "balance ASSET 6 = 0", "printed ASSET 5 1 = 2400000000",
                "printed RETAINED 5 1 = -2400000000", "printed ASSET 5 1000000 = 2400",
                "quantity ASSET 1 5 = 180000", "quantity ASSET 2 5 = 60000", "lot ASSET 1 179 = 1000:0",
                "lot ASSET 1 180 = NONE", "lot ASSET 2 59 = 1000:0", "lot ASSET 2 60 = NONE");
        String dear = Script.times(39, "begin 5; rest EQUITY; " + Script.times(5, "acquire ASSET 1 1 1000000")
                + "; commit");
        answers("the dearest lots there can be, in one", dear + "; begin 5; release ASSET 1 194 AVERAGE; rest EXPENSE",
                "commit = DONE", "weight 39 0 = -194000000", "weight 39 1 = 194000000",
                "lot ASSET 1 0 = 1:1000000", "balance EQUITY 5 = -195000000", "check EXPENSE 5 194000000 = true");
    }

    /** As much of everything as there can be, in 512 calls. */
    private static void allFullAtOnce() {
        StringBuilder state = new StringBuilder(Script.times(17, "open ASSET 0") + "; ");
        for (int n = 0; n < 40; n++) {
            state.append("begin ").append(40 - n).append("; rest 23; acquire 22 1 1 ").append(n);
            state.append("; money EQUITY 1; money INCOME 1; money EXPENSE 1; money LIABILITY 1; commit; ");
        }
        for (int day = 1; day <= 30; day++) {
            state.append("price 1 ").append(day).append(' ').append(day).append("; ");
        }
        state.append(Script.times(10, "check EXPENSE 40 40")).append("; ");
        for (int k = 0; k < 8; k++) {
            state.append("close ").append(5 * k + 5).append("; ");
        }
        answers("24 accounts, 40 transactions of 6 postings, 30 prices, 10 checks, 8 closings", state.toString(),
                "open ASSET 0 = NONE", "begin 41 = false", "price 1 41 1 = false", "check EXPENSE 40 40 = false",
                "close 41 = false", "count = 40", "weight 0 0 = -43", "weight 0 1 = 39", "weight 39 0 = -4",
                "weight 39 5 = 1", "quantity ASSET 1 40 = 40", "lot 22 1 0 = 1:39", "lot 22 1 39 = 1:0",
                "lot 22 1 40 = NONE", "balance 22 40 = 1200", "balance 23 40 = -940", "balance LIABILITY 40 = 40",
                "balance RETAINED 40 = -340", "balance EQUITY 40 = -300", "balance EXPENSE 40 = 0",
                "profit 0 = -170", "profit 7 = 130", "printed 22 40 1000 = 1", "printed 23 40 1000 = -1",
                "printed EQUITY 40 1000 = 0", "priceOn 1 41 = 30", "reopen = true", "profit 7 = 0",
                "balance EXPENSE 40 = 5", "begin 40 = false", "close 36 = true", "profit 7 = 24", "close 37 = false");
    }
}
