import java.util.ArrayList;
import java.util.Collections;
import java.util.List;
import java.util.Map;

/**
 * Calls written as text, on an object of their own: "open ASSET 5; begin 3; rest 7". Numbers may be
 * written by the document's names; of answers true counts 1 and false 0.
 */
final class Script {
    private static final int MOST_CALLS = 512;
    private static final long QUANTITY_PLACE = 4294967296L;

    private static final Map<String, Integer> NAMES = Map.ofEntries(
            Map.entry("ASSET", 0), Map.entry("LIABILITY", 1), Map.entry("EQUITY", 2),
            Map.entry("INCOME", 3), Map.entry("EXPENSE", 4), Map.entry("UNREALISED", 5),
            Map.entry("RETAINED", 6), Map.entry("NONE", -1), Map.entry("FIFO", 0),
            Map.entry("LIFO", 1), Map.entry("AVERAGE", 2), Map.entry("DONE", 0),
            Map.entry("NO_DRAFT", 1), Map.entry("SHORT", 2), Map.entry("UNBALANCED", 3),
            Map.entry("LATER", 4), Map.entry("false", 0), Map.entry("true", 1),
            Map.entry("MIN", Integer.MIN_VALUE), Map.entry("MAX", Integer.MAX_VALUE));

    private static final Map<String, Integer> ARGUMENTS = Map.ofEntries(
            Map.entry("open", 2), Map.entry("begin", 1), Map.entry("money", 2), Map.entry("acquire", 4),
            Map.entry("release", 4), Map.entry("rest", 1), Map.entry("commit", 0), Map.entry("drop", 0),
            Map.entry("count", 0), Map.entry("weight", 2), Map.entry("price", 3),
            Map.entry("priceOn", 2), Map.entry("check", 3), Map.entry("close", 1),
            Map.entry("reopen", 0), Map.entry("profit", 1), Map.entry("balance", 2),
            Map.entry("quantity", 3), Map.entry("lot", 3), Map.entry("printed", 3));

    private final LotBooks books = new LotBooks();
    private int calls = 0;

    /** The same calls a number of times. */
    static String times(int count, String text) {
        return String.join("; ", Collections.nCopies(count, text));
    }

    /** The calls of a text, one by one. */
    static List<String> split(String text) {
        List<String> all = new ArrayList<>();
        for (String one : text.split(";")) {
            if (!one.isBlank()) {
                all.add(one.trim());
            }
        }
        return all;
    }

    /** What a word of an answer stands for; a lot is written as its quantity and its cost, "3:10". */
    static long valueOf(String word) {
        int colon = word.indexOf(':');
        if (colon >= 0) {
            return Long.parseLong(word.substring(0, colon)) * QUANTITY_PLACE
                    + Long.parseLong(word.substring(colon + 1));
        }
        return NAMES.containsKey(word) ? NAMES.get(word) : Long.parseLong(word);
    }

    /** What the document has a call answer when it refuses it. */
    static boolean isRefusal(String call, long answer) {
        return switch (call.split(" ")[0]) {
            case "open" -> answer == LotBooks.NONE;
            case "commit" -> answer != LotBooks.DONE;
            case "begin", "money", "acquire", "release", "rest", "drop", "price", "check", "close",
                    "reopen" -> answer == 0;
            default -> false;
        };
    }

    /** Makes calls that the test takes for granted: the first that is refused, or null. */
    String prepare(String text) {
        for (String one : split(text)) {
            if (isRefusal(one, call(one))) {
                return one;
            }
        }
        return null;
    }

    /** One call, such as "money 7 -20": its answer. */
    long call(String text) {
        calls++;
        String[] words = text.split(" ");
        if (calls > MOST_CALLS || !ARGUMENTS.containsKey(words[0])
                || ARGUMENTS.get(words[0]) != words.length - 1) {
            throw new IllegalArgumentException("not a call that a test may make: " + text);
        }
        int[] in = new int[4];
        for (int i = 1; i < words.length; i++) {
            in[i - 1] = Math.toIntExact(valueOf(words[i]));
        }
        return answer(words[0], in);
    }

    private long answer(String name, int[] in) {
        return switch (name) {
            case "open" -> books.open(in[0], in[1]);
            case "begin" -> books.begin(in[0]) ? 1 : 0;
            case "money" -> books.money(in[0], in[1]) ? 1 : 0;
            case "acquire" -> books.acquire(in[0], in[1], in[2], in[3]) ? 1 : 0;
            case "release" -> books.release(in[0], in[1], in[2], in[3]) ? 1 : 0;
            case "rest" -> books.rest(in[0]) ? 1 : 0;
            case "commit" -> books.commit();
            case "drop" -> books.drop() ? 1 : 0;
            case "count" -> books.count();
            case "weight" -> books.weight(in[0], in[1]);
            case "price" -> books.price(in[0], in[1], in[2]) ? 1 : 0;
            case "priceOn" -> books.priceOn(in[0], in[1]);
            case "check" -> books.check(in[0], in[1], in[2]) ? 1 : 0;
            case "close" -> books.close(in[0]) ? 1 : 0;
            case "reopen" -> books.reopen() ? 1 : 0;
            case "profit" -> books.profit(in[0]);
            case "balance" -> books.balance(in[0], in[1]);
            case "quantity" -> books.quantity(in[0], in[1], in[2]);
            case "lot" -> books.lot(in[0], in[1], in[2]);
            default -> books.printed(in[0], in[1], in[2]);
        };
    }
}
