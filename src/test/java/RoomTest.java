import com.sun.management.ThreadMXBean;
import java.lang.management.ManagementFactory;
import java.lang.reflect.Array;
import java.lang.reflect.Field;
import java.lang.reflect.Modifier;

/** A mechanism is small, and its calls make nothing that stays in the room of all calls. */
public final class RoomTest {
    // A round is 28 calls and the start 38: together below the 512 of an object.
    private static final int ROUNDS = 16;
    private static final int CALLS_OF_A_ROUND = 28;
    private static final Check CHECK = new Check();

    // What the calls answer, so that none of them can be left out.
    private static long sum = 0;

    public static void main(String[] args) {
        CHECK.run(RoomTest::aMechanismIsSmall, RoomTest::callsMakeNothing);
        CHECK.end();
    }

    private static void aMechanismIsSmall() {
        CHECK.at("the room: what a constructor makes");
        CoinMechanism x = new CoinMechanism();
        int objects = 1;
        int elements = 0;
        for (Field field : CoinMechanism.class.getDeclaredFields()) {
            if (!Modifier.isStatic(field.getModifiers())) {
                Object kept = valueOf(field, x);
                boolean isRow = kept.getClass().isArray();
                objects += isRow ? 1 : 0;
                elements += 1 + (isRow ? Array.getLength(kept) : 0);
            }
        }
        CHECK.due("objects: " + objects, objects <= 15, true);
        CHECK.due("fields and elements: " + elements, elements <= 2500, true);
    }

    private static Object valueOf(Field field, CoinMechanism x) {
        try {
            field.setAccessible(true);
            return field.get(x);
        } catch (IllegalAccessException refused) {
            throw new IllegalStateException(refused);
        }
    }

    private static void callsMakeNothing() {
        CHECK.at("the room: what the calls make");
        ThreadMXBean threads = (ThreadMXBean) ManagementFactory.getThreadMXBean();
        CoinMechanism warm = Machines.full();
        everyCall(warm);
        CoinMechanism x = Machines.full();
        long before = threads.getCurrentThreadAllocatedBytes();
        for (int round = 0; round < ROUNDS; round++) {
            everyCall(x);
        }
        long made = threads.getCurrentThreadAllocatedBytes() - before;
        CHECK.due("the calls were made", sum != 0, true);
        // One row for ways to pay, made in each such call, would be above a million.
        CHECK.due("bytes that " + CALLS_OF_A_ROUND * ROUNDS + " calls made: " + made, made < 10_000, true);
    }

    /** Each method once, but addKind and addProduct, which the start has called. */
    private static void everyCall(CoinMechanism x) {
        sum += x.fill(0, 60) + x.take(1, 1) + x.emptyBox() + x.setLimit(2000) + x.setProduct(1, 300, 99);
        sum += x.insert(3) + x.cancel() + x.insert(0) + x.insert(1) + x.insert(2) + x.insert(0) + x.insert(0);
        sum += x.escrow(0) + x.buy(1) + x.credit() + x.coins(0, 3) + x.product(1, true);
        sum += x.fewest(2000) + x.part(2000, 7) + x.below(1999) + x.gaps(2000) + x.unit() + x.audit(7) + x.digest();
        sum += (x.refund() ? 1 : 0) + (x.lamp() ? 1 : 0) + (x.accept(0, true) ? 1 : 0) + (x.exactShare() > 0.5 ? 1 : 0);
    }
}
