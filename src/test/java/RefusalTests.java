import java.util.ArrayList;
import java.util.List;

// Each reason for which the document lets a call be refused. A row has the call refused for that
// reason alone: the same call is taken where the reason is missing, or one with other arguments is.
// "A call that answers false or NONE, and a commit that does not answer DONE, change nothing": what
// the probes ask and do afterwards is answered as by an object that the call was never made on.
public final class RefusalTests {
    private static final Report REPORT = new Report();

    /** Something of everything, but for accounts and closings, which would move the edges. */
    private static final String BOOKS = "begin 1; acquire ASSET 1 10 100; acquire ASSET 2 3 50; rest EQUITY; "
            + "commit; begin 3; release ASSET 1 4 FIFO; money EQUITY 61; rest INCOME; commit; "
            + "price 1 2 12; price 2 3 9; check EQUITY 1 -150; check INCOME 9999 -21; ";

    private static final String SIX = Script.times(6, "money LIABILITY 1");
    private static final String FIVE = Script.times(5, "money LIABILITY 1");

    private static final List<List<String>> PROBES = List.of(
            Script.split("count; " + weights()),
            Script.split(balances() + holdings()),
            Script.split(records()),
            Script.split("commit; count; " + balances() + holdings()),
            Script.split(Script.times(7, "money EXPENSE 1") + "; rest EQUITY; commit; " + weights()),
            Script.split("rest EXPENSE; commit; drop; " + weights()),
            Script.split(roomForAccounts()),
            Script.split("drop; " + Script.times(41, "begin 9999; commit; drop") + "; count"),
            Script.split("drop; " + Script.times(9, "reopen") + "; " + roomForPrices()),
            Script.split(Script.times(11, "check RETAINED 9999 0")),
            Script.split("drop; " + whatChecksForbid()),
            Script.split("drop; " + openDays()),
            Script.split("drop; " + roomForClosings() + records()),
            Script.split("drop; reopen; " + records() + balances()));

    public static void main(String[] args) {
        opening();
        beginning();
        anyPosting();
        moneyPostings();
        postingsOfLots();
        acquiring();
        releasing();
        resting();
        committingShort();
        committingUnbalanced();
        committingLater();
        theFirstThatIsSo();
        dropping();
        pricing();
        checking();
        closing();
        reopening();
        askingChangesNothing();
        REPORT.end();
    }

    private static String weights() {
        StringBuilder text = new StringBuilder();
        for (int n = 0; n <= 40; n++) {
            for (int k = 0; k < 6; k++) {
                text.append("weight ").append(n).append(' ').append(k).append("; ");
            }
        }
        return text.toString();
    }

    private static String balances() {
        StringBuilder text = new StringBuilder();
        for (int account = 0; account < 24; account++) {
            for (int day : new int[] {0, 4, 5, 9999}) {
                text.append("balance ").append(account).append(' ').append(day).append("; ");
            }
        }
        return text.toString();
    }

    private static String holdings() {
        StringBuilder text = new StringBuilder();
        for (int account : new int[] {0, 7, 8}) {
            for (int commodity = 1; commodity <= 4; commodity++) {
                String what = account + " " + commodity + " ";
                text.append("quantity ").append(what).append("5; quantity ").append(what).append("9999; ");
                text.append("lot ").append(what).append("0; lot ").append(what).append("1; ");
            }
        }
        return text.toString();
    }

    private static String records() {
        StringBuilder text = new StringBuilder();
        for (int commodity = 1; commodity <= 4; commodity++) {
            for (int day : new int[] {0, 1, 2, 3, 4, 5, 6, 7, 28, 29, 30, 9998, 9999}) {
                text.append("priceOn ").append(commodity).append(' ').append(day).append("; ");
            }
        }
        for (int k = 0; k < 9; k++) {
            text.append("profit ").append(k).append("; ");
        }
        for (int account = 0; account < 24; account++) {
            text.append("printed ").append(account).append(" 9999 7; ");
        }
        return text.toString();
    }

    private static String roomForAccounts() {
        StringBuilder text = new StringBuilder("drop; begin 9998; ");
        for (int account = 7; account < 12; account++) {
            text.append("acquire ").append(account).append(" 1 1 0; ");
        }
        return text + Script.times(18, "open ASSET 0");
    }

    private static String roomForPrices() {
        StringBuilder text = new StringBuilder();
        for (int day = 100; day < 131; day++) {
            text.append("price 3 ").append(day).append(" 1; ");
        }
        return text.toString();
    }

    private static String whatChecksForbid() {
        StringBuilder text = new StringBuilder();
        for (int account = 0; account < 8; account++) {
            for (int day : new int[] {9999, 6, 0}) {
                text.append("begin ").append(day).append("; money ").append(account);
                text.append(" 1; rest ").append(account == 2 ? "EXPENSE" : "EQUITY").append("; commit; drop; ");
            }
        }
        return text.toString();
    }

    private static String openDays() {
        StringBuilder text = new StringBuilder();
        for (int day : new int[] {0, 1, 2, 3, 4, 5, 6, 7, 8, 9, 60, 70, 9997, 9998, 9999}) {
            text.append("begin ").append(day).append("; drop; ");
        }
        return text.toString();
    }

    private static String roomForClosings() {
        StringBuilder text = new StringBuilder();
        for (int day = 9990; day < 9999; day++) {
            text.append("close ").append(day).append("; ");
        }
        return text.toString();
    }

    /** All that the probes answer after a state's calls and, unless it is empty, one more. */
    private static List<Long> trace(String state, String call) {
        List<Long> answers = new ArrayList<>();
        for (List<String> probe : PROBES) {
            Script script = new Script();
            script.prepare(state);
            if (!call.isEmpty()) {
                script.call(call);
            }
            for (String one : probe) {
                answers.add(script.call(one));
            }
        }
        return answers;
    }

    private static void answersAndChangesNothing(String what, String state, String call, long answer) {
        Script script = new Script();
        String hitch = script.prepare(state);
        REPORT.holds(what + ": set-up is refused: " + hitch, hitch == null);
        REPORT.due(what + ": " + call, script.call(call), answer);
        REPORT.holds(what + ": " + call + " changes something", trace(state, call).equals(trace(state, "")));
    }

    private static void refused(String reason, String state, String call) {
        long answer = call.startsWith("open") ? LotBooks.NONE : 0;
        answersAndChangesNothing(reason, state, call, answer);
    }

    /** A call that is taken changes what the probes answer, so they would see a refused one do so. */
    private static void taken(String reason, String state, String call) {
        Script script = new Script();
        String hitch = script.prepare(state);
        REPORT.holds(reason + ": set-up is refused: " + hitch, hitch == null);
        long answer = script.call(call);
        REPORT.holds("without \"" + reason + "\": " + call + " is refused", !Script.isRefusal(call, answer));
        REPORT.holds(reason + ": " + call + " changes nothing", !trace(state, call).equals(trace(state, "")));
    }

    /** One state, two calls: the first is refused for its arguments, the second is taken. */
    private static void edge(String reason, String state, String refusedCall, String takenCall) {
        for (String before : List.of("", BOOKS)) {
            refused(reason, before + state, refusedCall);
            taken(reason, before + state, takenCall);
        }
    }

    /** One call, two states: it is refused in the first and taken in the second. */
    private static void hindered(String reason, String state, String freeState, String call) {
        refused(reason, state, call);
        taken(reason, freeState, call);
    }

    private static void hinderedCommit(String reason, int answer, String state, String freeState) {
        answersAndChangesNothing(reason, state, "commit", answer);
        taken(reason, freeState, "commit");
    }

    private static void opening() {
        String noParent = "open: there is no account with the parent's number";
        edge(noParent, "", "open -1 0", "open 0 0");
        edge(noParent, "", "open 7 0", "open 6 0");
        edge(noParent, "open ASSET 0; ", "open 8 0", "open 7 0");
        edge(noParent, "", "open 24 0", "open 5 0");
        edge(noParent, "", "open MIN 0", "open 0 0");
        edge(noParent, "", "open MAX 0", "open 0 0");
        String day = "open: the day is not 0 .. 9999";
        edge(day, "", "open ASSET -1", "open ASSET 0");
        edge(day, "", "open ASSET 10000", "open ASSET 9999");
        edge(day, "", "open ASSET MIN", "open ASSET 0");
        edge(day, "", "open ASSET MAX", "open ASSET 9999");
        hindered("open: there are 24 accounts", Script.times(17, "open ASSET 0"),
                Script.times(16, "open ASSET 0"), "open ASSET 0");
    }

    private static void beginning() {
        hindered("begin: there is a draft", "begin 5", "begin 5; drop", "begin 5");
        hindered("begin: there is a draft", "begin 5; money ASSET 1; rest EQUITY", "begin 5; commit", "begin 6");
        String day = "begin: the day is not 0 .. 9999";
        edge(day, "", "begin -1", "begin 0");
        edge(day, "", "begin 10000", "begin 9999");
        edge(day, "", "begin MIN", "begin 0");
        edge(day, "", "begin MAX", "begin 9999");
        String closed = "begin: it is not later than the latest closing's day";
        edge(closed, "close 5", "begin 5", "begin 6");
        edge(closed, "close 5", "begin 4", "begin 6");
        edge(closed, "close 5", "begin 0", "begin 9999");
        edge(closed, "close 0", "begin 0", "begin 1");
        edge(closed, "close 2; close 6", "begin 5", "begin 7");
        edge(closed, "close 2; close 6; reopen", "begin 2", "begin 3");
        hindered(closed, "close 9999", "close 9998", "begin 9999");
        hindered("begin: there are 40 transactions", Script.times(40, "begin 5; commit"),
                Script.times(39, "begin 5; commit"), "begin 5");
    }

    private static void anyPosting() {
        for (String call : List.of("money A 1", "acquire A 1 1 1", "release A 1 1 FIFO", "rest A")) {
            String name = call.split(" ")[0];
            String onAsset = call.replace("A", "ASSET");
            hindered(name + ": there is no draft", "", "begin 5", onAsset);
            hindered(name + ": there is no draft", BOOKS, BOOKS + "begin 5", onAsset);
            hindered(name + ": there is no draft", "begin 5; drop", "begin 5; drop; begin 5", onAsset);
            hindered(name + ": there is no draft", "begin 5; commit", "begin 5; commit; begin 5", onAsset);
            hindered(name + ": it has 6 postings", "begin 5; " + SIX, "begin 5; " + FIVE, onAsset);
            hindered(name + ": it has 6 postings", BOOKS + "begin 5; " + SIX, BOOKS + "begin 5; " + FIVE, onAsset);
            String noAccount = name + ": there is no such account";
            edge(noAccount, "begin 5", call.replace("A", "-1"), call.replace("A", "0"));
            edge(noAccount, "begin 5", call.replace("A", "7"), onAsset);
            edge(noAccount, "begin 5", call.replace("A", "24"), onAsset);
            edge(noAccount, "begin 5", call.replace("A", "MIN"), onAsset);
            edge(noAccount, "begin 5", call.replace("A", "MAX"), onAsset);
            edge(noAccount, "open ASSET 0; begin 5", call.replace("A", "8"), call.replace("A", "7"));
            hindered(noAccount, "begin 5", "begin 5; open ASSET 0", call.replace("A", "7"));
            String tooEarly = name + ": it can be used only from a day later than the draft's on";
            hindered(tooEarly, "open ASSET 6; begin 5", "open ASSET 6; begin 6", call.replace("A", "7"));
            hindered(tooEarly, "open ASSET 6; begin 5", "open ASSET 5; begin 5", call.replace("A", "7"));
            hindered(tooEarly, "open ASSET 9999; begin 9998", "open ASSET 9999; begin 9999",
                    call.replace("A", "7"));
            hindered(tooEarly, "open ASSET 1; begin 0", "open ASSET 0; begin 0", call.replace("A", "7"));
        }
    }

    private static void moneyPostings() {
        String amount = "money: the amount is 0 or not -1000000 .. 1000000";
        edge(amount, "begin 5", "money ASSET 0", "money ASSET 1");
        edge(amount, "begin 5", "money ASSET 0", "money ASSET -1");
        edge(amount, "begin 5", "money ASSET 1000001", "money ASSET 1000000");
        edge(amount, "begin 5", "money ASSET -1000001", "money ASSET -1000000");
        edge(amount, "begin 5", "money ASSET MAX", "money ASSET 1000000");
        edge(amount, "begin 5", "money ASSET MIN", "money ASSET -1000000");
    }

    private static void postingsOfLots() {
        for (String call : List.of("acquire A C Q 1", "release A C Q FIFO")) {
            String name = call.split(" ")[0];
            String good = call.replace("Q", "1").replace("C", "1").replace("A", "0");
            String byAccount = call.replace("Q", "1").replace("C", "1");
            for (int account = 1; account <= 6; account++) {
                edge(name + ": it is not of kind ASSET", "begin 5", byAccount.replace("A", "" + account), good);
                hindered(name + ": it is not of kind ASSET", "open " + account + " 0; begin 5",
                        "open ASSET 0; begin 5", byAccount.replace("A", "7"));
            }
            String byCommodity = call.replace("Q", "1").replace("A", "0");
            String commodity = name + ": the commodity is not 1 .. 4";
            edge(commodity, "begin 5", byCommodity.replace("C", "0"), byCommodity.replace("C", "1"));
            edge(commodity, "begin 5", byCommodity.replace("C", "5"), byCommodity.replace("C", "4"));
            edge(commodity, "begin 5", byCommodity.replace("C", "-1"), good);
            edge(commodity, "begin 5", byCommodity.replace("C", "MIN"), good);
            edge(commodity, "begin 5", byCommodity.replace("C", "MAX"), good);
            String byQuantity = call.replace("C", "1").replace("A", "0");
            String quantity = name + ": the quantity is not 1 .. 1000";
            edge(quantity, "begin 5", byQuantity.replace("Q", "0"), byQuantity.replace("Q", "1"));
            edge(quantity, "begin 5", byQuantity.replace("Q", "1001"), byQuantity.replace("Q", "1000"));
            edge(quantity, "begin 5", byQuantity.replace("Q", "-1"), good);
            edge(quantity, "begin 5", byQuantity.replace("Q", "MIN"), good);
            edge(quantity, "begin 5", byQuantity.replace("Q", "MAX"), good);
        }
    }

    private static void acquiring() {
        String cost = "acquire: the cost is not 0 .. 1000000";
        edge(cost, "begin 5", "acquire ASSET 1 1 -1", "acquire ASSET 1 1 0");
        edge(cost, "begin 5", "acquire ASSET 1 1 1000001", "acquire ASSET 1 1 1000000");
        edge(cost, "begin 5", "acquire ASSET 1 1 MIN", "acquire ASSET 1 1 0");
        edge(cost, "begin 5", "acquire ASSET 1 1 MAX", "acquire ASSET 1 1 1000000");
    }

    private static void releasing() {
        String how = "release: how is not FIFO, LIFO or AVERAGE";
        edge(how, "begin 5", "release ASSET 1 1 -1", "release ASSET 1 1 FIFO");
        edge(how, "begin 5", "release ASSET 1 1 3", "release ASSET 1 1 AVERAGE");
        edge(how, "begin 5", "release ASSET 1 1 MIN", "release ASSET 1 1 LIFO");
        edge(how, "begin 5", "release ASSET 1 1 MAX", "release ASSET 1 1 LIFO");
    }

    private static void resting() {
        String second = "rest: it has a REST";
        hindered(second, "begin 5; rest EQUITY", "begin 5", "rest EQUITY");
        hindered(second, "begin 5; rest EQUITY", "begin 5; rest EQUITY; drop; begin 5", "rest ASSET");
        hindered(second, "begin 5; rest EQUITY; money ASSET 1", "begin 5; money ASSET 1", "rest ASSET");
        hindered(second, "begin 5; rest ASSET; " + Script.times(4, "money LIABILITY 1"), "begin 5; " + FIVE,
                "rest EQUITY");
    }

    private static void committingShort() {
        String none = "commit: there is no draft";
        hinderedCommit(none, LotBooks.NO_DRAFT, "", "begin 5");
        hinderedCommit(none, LotBooks.NO_DRAFT, BOOKS, BOOKS + "begin 5");
        hinderedCommit(none, LotBooks.NO_DRAFT, "begin 5; drop", "begin 5; drop; begin 5");
        hinderedCommit(none, LotBooks.NO_DRAFT, "begin 5; commit", "begin 5; commit; begin 5");
        String shortOf = "commit: the draft would be short";
        for (String how : List.of("FIFO", "LIFO", "AVERAGE")) {
            hinderedCommit(shortOf, LotBooks.SHORT, "begin 5; rest EQUITY; release ASSET 1 1 " + how,
                    "begin 5; rest EQUITY; acquire ASSET 1 1 7; release ASSET 1 1 " + how);
            hinderedCommit(shortOf, LotBooks.SHORT, BOOKS + "begin 5; rest EQUITY; release ASSET 1 7 " + how,
                    BOOKS + "begin 5; rest EQUITY; release ASSET 1 6 " + how);
            String elsewhere = "open ASSET 0; begin 4; acquire 7 1 9 50; rest EQUITY; commit; begin 5; rest EQUITY; ";
            hinderedCommit(shortOf + ", with lots below", LotBooks.SHORT,
                    elsewhere + "release ASSET 1 9 " + how, elsewhere + "release 7 1 9 " + how);
            hinderedCommit(shortOf + ", with another commodity's lots", LotBooks.SHORT,
                    elsewhere + "release 7 2 9 " + how, elsewhere + "release 7 1 9 " + how);
        }
        hinderedCommit(shortOf + ", by a posting before the lot's", LotBooks.SHORT,
                "begin 5; rest EQUITY; release ASSET 1 1 FIFO; acquire ASSET 1 1 7",
                "begin 5; rest EQUITY; acquire ASSET 1 1 7; release ASSET 1 1 FIFO");
        hinderedCommit(shortOf + ", on a day before the lot's", LotBooks.SHORT,
                BOOKS + "begin 0; release ASSET 2 1 FIFO; rest ASSET",
                BOOKS + "begin 1; release ASSET 2 1 FIFO; rest ASSET");
        hinderedCommit(shortOf + ", by the second release", LotBooks.SHORT,
                BOOKS + "begin 5; release ASSET 2 2 FIFO; rest EQUITY; release ASSET 2 2 FIFO",
                BOOKS + "begin 5; release ASSET 2 2 FIFO; rest EQUITY; release ASSET 2 1 FIFO");
    }

    private static void committingUnbalanced() {
        String unbalanced = "commit: the draft would be unbalanced";
        hinderedCommit(unbalanced, LotBooks.UNBALANCED, "begin 5; money ASSET 1", "begin 5");
        hinderedCommit(unbalanced, LotBooks.UNBALANCED, "begin 5; money ASSET 1",
                "begin 5; money ASSET 1; rest EQUITY");
        for (String other : List.of("6", "8")) {
            hinderedCommit(unbalanced, LotBooks.UNBALANCED, "begin 5; money ASSET 7; money EQUITY -" + other,
                    "begin 5; money ASSET 7; money EQUITY -7");
            hinderedCommit(unbalanced, LotBooks.UNBALANCED,
                    BOOKS + "begin 5; acquire ASSET 1 1 7; money EQUITY -" + other,
                    BOOKS + "begin 5; acquire ASSET 1 1 7; money EQUITY -7");
        }
        for (String other : List.of("49", "51")) {
            hinderedCommit(unbalanced, LotBooks.UNBALANCED,
                    BOOKS + "begin 5; release ASSET 2 3 AVERAGE; money LIABILITY " + other,
                    BOOKS + "begin 5; release ASSET 2 3 AVERAGE; money LIABILITY 50");
        }
    }

    private static void committingLater() {
        String behindShort = "commit: a transaction behind it would become short";
        String allSold = "begin 4; acquire ASSET 1 9 90; rest EQUITY; commit; "
                + "begin 6; release ASSET 1 8 FIFO; rest INCOME; commit; ";
        hinderedCommit(behindShort, LotBooks.LATER, allSold + "begin 5; release ASSET 1 2 FIFO; rest INCOME",
                allSold + "begin 5; release ASSET 1 1 FIFO; rest INCOME");
        hinderedCommit(behindShort, LotBooks.LATER, allSold + "begin 5; release ASSET 1 2 AVERAGE; rest INCOME",
                allSold + "begin 5; acquire ASSET 1 1 3; release ASSET 1 2 AVERAGE; rest INCOME");
        String behindUnbalanced = "commit: a transaction behind it would become unbalanced";
        String exact = "begin 4; acquire ASSET 1 9 90; rest EQUITY; commit; "
                + "begin 6; release ASSET 1 3 FIFO; money EXPENSE 30; commit; ";
        hinderedCommit(behindUnbalanced, LotBooks.LATER, exact + "begin 3; acquire ASSET 1 1 9; rest EQUITY",
                exact + "begin 3; acquire ASSET 1 1 10; rest EQUITY");
        hinderedCommit(behindUnbalanced, LotBooks.LATER, exact + "begin 3; acquire ASSET 1 1 9; rest EQUITY",
                exact + "begin 4; acquire ASSET 1 1 9; rest EQUITY");
        String check = "commit: a check would not hold";
        String checked = BOOKS + "check LIABILITY 5 0; ";
        hinderedCommit(check, LotBooks.LATER, checked + "begin 5; money LIABILITY 1; rest EXPENSE",
                checked + "begin 6; money LIABILITY 1; rest EXPENSE");
        hinderedCommit(check, LotBooks.LATER, checked + "begin 0; money LIABILITY -1; rest EXPENSE",
                BOOKS + "begin 0; money LIABILITY -1; rest EXPENSE");
        hinderedCommit(check, LotBooks.LATER, checked + "begin 5; money LIABILITY 2; money LIABILITY -1; rest EXPENSE",
                checked + "begin 5; money LIABILITY 2; money LIABILITY -1; rest LIABILITY");
        String checkBehind = exact.replace("money EXPENSE 30", "rest EXPENSE") + "check EXPENSE 6 30; ";
        hinderedCommit(check + " for other weights behind it", LotBooks.LATER,
                checkBehind + "begin 3; acquire ASSET 1 1 9; rest EQUITY",
                checkBehind + "begin 3; acquire ASSET 1 1 10; rest EQUITY");
        String tenth = Script.times(9, "check RETAINED 9999 0") + "; check LIABILITY 9999 0; ";
        hinderedCommit(check + ", the tenth", LotBooks.LATER, tenth + "begin 9999; money LIABILITY 1; rest EXPENSE",
                tenth + "begin 9999; money ASSET 1; rest EXPENSE");
    }

    private static void theFirstThatIsSo() {
        String books = BOOKS + "check LIABILITY 5 0; begin 5; ";
        answersAndChangesNothing("SHORT goes before UNBALANCED and LATER", books
                + "money LIABILITY 1; release ASSET 1 7 FIFO", "commit", LotBooks.SHORT);
        answersAndChangesNothing("SHORT goes before LATER", books
                + "money LIABILITY 1; release ASSET 1 7 FIFO; rest EQUITY", "commit", LotBooks.SHORT);
        answersAndChangesNothing("UNBALANCED goes before LATER", books
                + "money LIABILITY 1; release ASSET 1 6 FIFO", "commit", LotBooks.UNBALANCED);
        answersAndChangesNothing("LATER, when it is neither", books
                + "money LIABILITY 1; release ASSET 1 6 FIFO; rest EQUITY", "commit", LotBooks.LATER);
    }

    private static void dropping() {
        hindered("drop: there is none", "", "begin 5", "drop");
        hindered("drop: there is none", BOOKS, BOOKS + "begin 5; money ASSET 1", "drop");
        hindered("drop: there is none", "begin 5; drop", "begin 5; drop; begin 5", "drop");
        hindered("drop: there is none", "begin 5; commit", "begin 5; commit; begin 5", "drop");
    }

    private static void pricing() {
        String commodity = "price: the commodity is not 1 .. 4";
        edge(commodity, "", "price 0 5 7", "price 1 5 7");
        edge(commodity, "", "price 5 5 7", "price 4 5 7");
        edge(commodity, "", "price -1 5 7", "price 1 5 7");
        edge(commodity, "", "price MIN 5 7", "price 1 5 7");
        edge(commodity, "", "price MAX 5 7", "price 4 5 7");
        String day = "price: the day is not 0 .. 9999";
        edge(day, "", "price 1 -1 7", "price 1 0 7");
        edge(day, "", "price 1 10000 7", "price 1 9999 7");
        edge(day, "", "price 1 MIN 7", "price 1 0 7");
        edge(day, "", "price 1 MAX 7", "price 1 9999 7");
        String closed = "price: the day is not later than the latest closing's day";
        edge(closed, "close 5", "price 1 5 7", "price 1 6 7");
        edge(closed, "close 5", "price 1 4 7", "price 1 6 7");
        edge(closed, "price 1 5 6; close 5", "price 1 5 7", "price 1 6 7");
        edge(closed, "close 0", "price 1 0 7", "price 1 1 7");
        edge(closed, "close 2; close 6", "price 1 5 7", "price 1 7 7");
        edge(closed, "close 2; close 6; reopen", "price 1 2 7", "price 1 3 7");
        hindered(closed, "close 9999", "close 9998", "price 1 9999 7");
        String p = "price: p is not 0 .. 10000";
        edge(p, "", "price 1 5 -1", "price 1 5 0");
        edge(p, "", "price 1 5 10001", "price 1 5 10000");
        edge(p, "", "price 1 5 MIN", "price 1 5 0");
        edge(p, "", "price 1 5 MAX", "price 1 5 10000");
        String full = "price: the commodity has none on that day and there are 30 prices";
        String thirty = prices(30);
        hindered(full, thirty, prices(29), "price 1 30 7");
        hindered(full, thirty, prices(29), "price 2 0 7");
        refused(full, thirty, "price 1 9999 7");
        taken(full, thirty, "price 1 0 7");
        taken(full, thirty, "price 1 29 7");
    }

    /** A number of prices of commodity 1, on the days from 0 on. */
    private static String prices(int count) {
        StringBuilder text = new StringBuilder();
        for (int day = 0; day < count; day++) {
            text.append("price 1 ").append(day).append(" 3; ");
        }
        return text.toString();
    }

    private static void checking() {
        String account = "check: there is no such account";
        edge(account, "", "check -1 5 0", "check LIABILITY 5 0");
        edge(account, "", "check 7 5 0", "check 6 5 0");
        edge(account, "open ASSET 0", "check 8 5 0", "check 7 5 0");
        edge(account, "", "check 24 5 0", "check 6 5 0");
        edge(account, "", "check MIN 5 0", "check LIABILITY 5 0");
        edge(account, "", "check MAX 5 0", "check LIABILITY 5 0");
        String day = "check: the day is not 0 .. 9999";
        String liability = "begin 0; money LIABILITY 7; rest EXPENSE; commit";
        edge(day, "", "check LIABILITY -1 0", "check LIABILITY 0 0");
        edge(day, liability, "check LIABILITY 10000 7", "check LIABILITY 9999 7");
        edge(day, "", "check LIABILITY MIN 0", "check LIABILITY 0 0");
        edge(day, liability, "check LIABILITY MAX 7", "check LIABILITY 9999 7");
        String amount = "check: the amount is not what is posted of them";
        edge(amount, "", "check LIABILITY 5 1", "check LIABILITY 5 0");
        edge(amount, "", "check LIABILITY 5 -1", "check LIABILITY 5 0");
        edge(amount, liability, "check LIABILITY 5 8", "check LIABILITY 5 7");
        edge(amount, liability, "check LIABILITY 5 6", "check LIABILITY 5 7");
        edge(amount, liability, "check LIABILITY 5 -7", "check EXPENSE 5 -7");
        edge(amount, liability.replace("begin 0", "begin 6"), "check LIABILITY 5 7", "check LIABILITY 6 7");
        edge(amount, liability.replace("begin 0", "begin 6"), "check LIABILITY 6 0", "check LIABILITY 5 0");
        edge(amount, liability, "check LIABILITY 5 MIN", "check LIABILITY 5 7");
        edge(amount, liability, "check LIABILITY 5 MAX", "check LIABILITY 5 7");
        hindered("check: there are 10 checks", Script.times(10, "check LIABILITY 5 0"),
                Script.times(9, "check LIABILITY 5 0"), "check LIABILITY 5 0");
    }

    private static void closing() {
        hindered("close: there is a draft", "begin 5", "begin 5; drop", "close 5");
        hindered("close: there is a draft", BOOKS + "begin 6; money ASSET 1", BOOKS, "close 5");
        String day = "close: the day is not 0 .. 9999";
        edge(day, "", "close -1", "close 0");
        edge(day, "", "close 10000", "close 9999");
        edge(day, "", "close MIN", "close 0");
        edge(day, "", "close MAX", "close 9999");
        String closed = "close: it is not later than the latest closing's day";
        edge(closed, "close 5", "close 5", "close 6");
        edge(closed, "close 5", "close 4", "close 6");
        edge(closed, "close 5", "close 0", "close 9999");
        edge(closed, "close 0", "close 0", "close 1");
        edge(closed, "close 2; close 6", "close 4", "close 7");
        edge(closed, "close 2; close 6; reopen", "close 2", "close 3");
        hindered(closed, "close 9999", "close 9998", "close 9999");
        String seven = "close 0; close 1; close 2; close 3; close 4; close 5; close 6";
        hindered("close: there are 8 closings", seven + "; close 7", seven, "close 8");
        hindered("close: there are 8 closings", seven + "; close 7", seven + "; close 7; reopen", "close 9999");
    }

    private static void reopening() {
        hindered("reopen: there is a draft", "close 5; begin 6", "close 5; begin 6; drop", "reopen");
        hindered("reopen: there is a draft", BOOKS + "close 5; begin 6; money ASSET 1", BOOKS + "close 5", "reopen");
        hindered("reopen: there is no closing", "", "close 0", "reopen");
        hindered("reopen: there is no closing", BOOKS, BOOKS + "close 9999", "reopen");
        hindered("reopen: there is no closing", "close 5; reopen", "close 4; close 5; reopen", "reopen");
    }

    private static void askingChangesNothing() {
        String state = BOOKS + "close 5; begin 6; money ASSET 1; rest EQUITY";
        answersAndChangesNothing("count", state, "count", 2);
        answersAndChangesNothing("weight: there is none", state, "weight 2 0", 0);
        answersAndChangesNothing("weight: there is none", state, "weight 1 3", 0);
        answersAndChangesNothing("weight", state, "weight 1 2", -21);
        answersAndChangesNothing("priceOn: none holds", state, "priceOn 1 1", -1);
        answersAndChangesNothing("priceOn: none holds", state, "priceOn 5 9", -1);
        answersAndChangesNothing("priceOn", state, "priceOn 1 MAX", 12);
        answersAndChangesNothing("profit: there is none", state, "profit 1", 0);
        answersAndChangesNothing("profit", state, "profit 0", 21 + 12 - 23);
        answersAndChangesNothing("balance: there is no such account", state, "balance 7 9", 0);
        answersAndChangesNothing("balance", state, "balance RETAINED 5", -10);
        answersAndChangesNothing("quantity: there is no such account", state, "quantity 7 1 9", 0);
        answersAndChangesNothing("quantity: the commodity is not 1 .. 4", state, "quantity ASSET 0 9", 0);
        answersAndChangesNothing("quantity", state, "quantity ASSET 1 9", 6);
        answersAndChangesNothing("lot: there is none", state, "lot ASSET 1 1", -1);
        answersAndChangesNothing("lot: there is none", state, "lot 7 1 0", -1);
        answersAndChangesNothing("lot", state, "lot ASSET 1 0", Script.valueOf("6:60"));
        answersAndChangesNothing("printed: there is no such account", state, "printed 7 9 1", 0);
        answersAndChangesNothing("printed: u is not 1 .. 1000000", state, "printed ASSET 9 0", 0);
        answersAndChangesNothing("printed", state, "printed RETAINED 9 5", -2);
    }
}
