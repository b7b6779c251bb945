import com.sun.management.ThreadMXBean;
import java.lang.management.ManagementFactory;
import java.util.function.Supplier;

// All calls of one run live in one room (rule 12 of LANGUAGE.md): what an object and each of its calls
// makes is measured in bytes. An object or array has at least 16 of them, a field or element at least
// 4, so that these limits keep 512 calls, each the dearest, under 35,000 objects and 140,000 elements.
public final class RoomTest {
    private static final long MOST_OF_AN_OBJECT = 20000;
    private static final long MOST_OF_A_CALL = 1000;
    private static final int DAYS = 40;

    private static final ThreadMXBean MEASURE = (ThreadMXBean) ManagementFactory.getThreadMXBean();
    private static final Report REPORT = new Report();

    private static long made() {
        return MEASURE.getThreadAllocatedBytes(Thread.currentThread().getId());
    }

    public static void main(String[] args) {
        // Once without measuring: the first of each call also loads classes.
        run(new Meter(false));
        run(new Meter(true));
        REPORT.end();
    }

    /** Measures one call after the other; what the measuring itself makes is left out. */
    private static final class Meter {
        final boolean tells;

        Meter(boolean tells) {
            this.tells = tells;
        }

        <T> T of(String what, long most, Supplier<T> call) {
            long before = made();
            T answer = call.get();
            long bytes = made() - before;
            if (tells) {
                REPORT.holds(what + " makes " + bytes + " bytes, at most " + most, bytes <= most);
            }
            return answer;
        }

        void changes(String what, Supplier<Object> call) {
            of(what, MOST_OF_A_CALL, call);
        }

        /** A question makes nothing but the box that the measuring puts its answer in. */
        void asks(String what, Supplier<Object> call) {
            of(what, Long.BYTES * 3, call);
        }
    }

    private static void run(Meter meter) {
        LotBooks x = meter.of("a new object", MOST_OF_AN_OBJECT, LotBooks::new);
        for (int i = 0; i < 17; i++) {
            meter.changes("open", () -> x.open(0, 0));
        }
        meter.changes("begin", () -> x.begin(0));
        meter.changes("drop", x::drop);
        for (int n = 0; n < DAYS; n++) {
            int day = DAYS - n;
            meter.changes("begin", () -> x.begin(day));
            for (int k = 0; k < 4; k++) {
                meter.changes("acquire", () -> x.acquire(23, 1, 3, 10));
            }
            meter.changes("release", () -> x.release(23, 1, 5, LotBooks.AVERAGE));
            meter.changes("rest", () -> x.rest(2));
            meter.asks("commit", x::commit);
        }
        REPORT.due("transactions", x.count(), DAYS);
        meter.changes("price", () -> x.price(1, 3, 20));
        meter.changes("check", () -> x.check(2, 0, 0));
        for (int day = 1; day <= 20; day++) {
            int end = day;
            meter.changes("close", () -> x.close(end));
            meter.changes("reopen", x::reopen);
        }
        meter.changes("close", () -> x.close(DAYS));
        questions(meter, x);
    }

    private static void questions(Meter meter, LotBooks x) {
        meter.asks("count", x::count);
        meter.asks("weight", () -> x.weight(39, 4));
        meter.asks("priceOn", () -> x.priceOn(1, 50));
        meter.asks("profit", () -> x.profit(0));
        meter.asks("balance", () -> x.balance(0, DAYS));
        meter.asks("quantity", () -> x.quantity(0, 1, DAYS));
        meter.asks("lot", () -> x.lot(23, 1, 0));
        meter.asks("printed", () -> x.printed(23, DAYS, 7));
    }
}
