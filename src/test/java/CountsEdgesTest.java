import java.math.BigInteger;
import java.util.ArrayList;
import java.util.List;

/** The edges that the document names for what was counted, promises 24 to 26, and for 512 calls of one object. */
public final class CountsEdgesTest {
    private static final Class<IllegalArgumentException> ARGUMENT = MachineCheck.ARGUMENT;
    private static final Class<IllegalStateException> STATE = MachineCheck.STATE;
    private static final Class<IndexOutOfBoundsException> INDEX = MachineCheck.INDEX;
    private static final MachineCheck CHECK = new MachineCheck();

    public static void main(String[] args) {
        CHECK.run(
            CountsEdgesTest::auditWhat0To9,
            CountsEdgesTest::auditOfNothing,
            CountsEdgesTest::auditOfCoinsThatCameIn,
            CountsEdgesTest::auditOfCoinsGivenBack,
            CountsEdgesTest::auditOfCoinsPaid,
            CountsEdgesTest::auditOfFillAndTake,
            CountsEdgesTest::auditOfTheBox,
            CountsEdgesTest::auditOfSales,
            CountsEdgesTest::auditOfAllSalesTakenBack,
            CountsEdgesTest::exactShareOfNone,
            CountsEdgesTest::exactShareOfAllAndOfSome,
            CountsEdgesTest::digestOfNothing,
            CountsEdgesTest::digestOfEverything,
            CountsEdgesTest::digestWrapsAround,
            CountsEdgesTest::digestTellsOfEachNumber,
            CountsEdgesTest::noOtherObjectIsTouched,
            CountsEdgesTest::upTo512Calls);
        CHECK.end();
    }

    /** Kind 0 of value 1, capacity 60; product 0: 3, stock 99. */
    private static CoinMechanism ones(int inTube) {
        CoinMechanism x = Machines.withTubes(new int[] {1}, new int[] {inTube});
        x.addProduct(3, 99);
        return x;
    }

    private static void sale(CoinMechanism x, int coins) {
        for (int i = 0; i < coins; i++) {
            CHECK.insertAll(x, 0);
        }
        CHECK.due("buy(0)", x.buy(0), 0);
    }

    // ---- promise 24

    private static void auditWhat0To9() {
        CHECK.at("24: if what is not 0 to 9");
        CHECK.refusedOutside("audit(#)", INDEX, 0, 9, Machines::fresh, (x, w) -> x.audit(w));
        CHECK.refusedOutside("audit(#)", INDEX, 0, 9, Machines::inUse, (x, w) -> x.audit(w));
        CHECK.refusedOutside("audit(#)", INDEX, 0, 9, Machines::full, (x, w) -> x.audit(w));
        CHECK.unchanged("audit(0)", 265L, Machines::inUse, x -> x.audit(0));
        CHECK.unchanged("audit(9)", 0L, Machines::inUse, x -> x.audit(9));
    }

    private static void auditOfNothing() {
        CHECK.at("24: nothing was counted yet");
        CHECK.dueAudit(Machines.fresh());
        CHECK.dueAudit(Machines.small());
    }

    private static void auditOfCoinsThatCameIn() {
        CHECK.at("24: 0 the value of all coins that came into the escrow");
        CoinMechanism x = ones(0);
        x.addKind(500, 0);
        CHECK.insertAll(x, 0, 1);
        CHECK.dueAudit(x, 501);
        x.setLimit(501);
        CHECK.due("insert(0) falls through", x.insert(0), 3);
        x.accept(1, false);
        CHECK.due("insert(1) falls through", x.insert(1), 1);
        x.setLimit(2000);
        for (int i = 0; i < 10; i++) {
            CHECK.insertAll(x, 0);
        }
        CHECK.due("insert(0) falls through", x.insert(0), 2);
        CHECK.dueAudit(x, 511);
    }

    private static void auditOfCoinsGivenBack() {
        CHECK.at("24: 1 of those that were given back by cancel");
        CoinMechanism x = Machines.full();
        x.cancel();
        CHECK.dueAudit(x, 400, 400, 0, 0, 21_600);
        x.cancel();
        CHECK.dueAudit(x, 400, 400, 0, 0, 21_600);
        CHECK.insertAll(x, 7);
        CHECK.dueAudit(x, 410, 400, 0, 0, 21_600);
        x.cancel();
        CHECK.dueAudit(x, 410, 410, 0, 0, 21_600);
    }

    private static void auditOfCoinsPaid() {
        CHECK.at("24: 2 of those that were paid for sales; 3 of those that were paid when sales were taken back");
        CoinMechanism x = ones(0);
        sale(x, 5);
        CHECK.dueAudit(x, 5, 0, 2, 0, 0, 0, 0, 3, 1, 0);
        CHECK.due("refund()", x.refund(), true);
        CHECK.dueAudit(x, 5, 0, 2, 3, 0, 0, 0, 3, 1, 0);
        CHECK.dueThrow("refund()", STATE, () -> x.refund());
        CHECK.due("buy(0): not sold", x.buy(0), 2);
        CHECK.dueAudit(x, 5, 0, 2, 3, 0, 0, 0, 3, 1, 0);
        sale(x, 12);
        x.take(0, 1);
        CHECK.due("refund(): 2 of 3", x.refund(), false);
        CHECK.dueAudit(x, 17, 0, 11, 3, 0, 1, 0, 6, 2, 0);
    }

    private static void auditOfFillAndTake() {
        CHECK.at("24: 4 of those that were filled into tubes by fill; 5 of those that were taken by take");
        CoinMechanism x = new CoinMechanism();
        x.addKind(500, 3);
        x.addKind(1, 60);
        x.fill(0, 60);
        CHECK.dueAudit(x, 0, 0, 0, 0, 1500);
        x.fill(0, 1);
        x.fill(1, 0);
        CHECK.dueAudit(x, 0, 0, 0, 0, 1500);
        x.take(1, 60);
        CHECK.dueAudit(x, 0, 0, 0, 0, 1500);
        x.fill(1, 60);
        x.take(0, 60);
        x.take(0, 1);
        x.take(1, 1);
        CHECK.dueAudit(x, 0, 0, 0, 0, 1560, 1501);
        CHECK.dueThrow("fill(1, 61)", ARGUMENT, () -> x.fill(1, 61));
        CHECK.dueThrow("take(1, 61)", ARGUMENT, () -> x.take(1, 61));
        CHECK.dueAudit(x, 0, 0, 0, 0, 1560, 1501);
    }

    private static void auditOfTheBox() {
        CHECK.at("24: 6 of those that were in the box when it was emptied");
        CoinMechanism x = Machines.inUse();
        CHECK.dueAudit(x, 265, 0, 165, 0, 170, 0, 0, 35, 1, 0);
        x.emptyBox();
        CHECK.dueAudit(x, 265, 0, 165, 0, 170, 0, 150, 35, 1, 0);
        x.emptyBox();
        CHECK.dueAudit(x, 265, 0, 165, 0, 170, 0, 150, 35, 1, 0);
    }

    private static void auditOfSales() {
        CHECK.at("24: 7 the prices of all sales; 8 how many sales there were; 9 how many of them paid no coin");
        CoinMechanism x = ones(0);
        sale(x, 3);
        CHECK.dueAudit(x, 3, 0, 0, 0, 0, 0, 0, 3, 1, 1);
        sale(x, 4);
        CHECK.dueAudit(x, 7, 0, 1, 0, 0, 0, 0, 6, 2, 1);
        x.setProduct(0, 12, 1);
        sale(x, 12);
        CHECK.dueAudit(x, 19, 0, 1, 0, 0, 0, 0, 18, 3, 2);
        CHECK.due("buy(0): sold out", x.buy(0), 1);
        x.setProduct(0, 12, 1);
        CHECK.due("buy(0): not enough", x.buy(0), 2);
        CHECK.dueAudit(x, 19, 0, 1, 0, 0, 0, 0, 18, 3, 2);
    }

    private static void auditOfAllSalesTakenBack() {
        CHECK.at("24: all sales, those that were taken back too");
        CoinMechanism x = ones(0);
        sale(x, 3);
        x.refund();
        CHECK.dueAudit(x, 3, 0, 0, 3, 0, 0, 0, 3, 1, 1);
        sale(x, 3);
        x.refund();
        CHECK.dueAudit(x, 6, 0, 0, 6, 0, 0, 0, 6, 2, 2);
    }

    // ---- promise 25

    private static void exactShareOfNone() {
        CHECK.at("25: 1 if there were none");
        CHECK.unchanged("exactShare()", 1.0, Machines::fresh, x -> x.exactShare());
        CHECK.unchanged("exactShare()", 1.0, Machines::full, x -> x.exactShare());
        CoinMechanism x = ones(0);
        CHECK.due("buy(0): not sold", x.buy(0), 2);
        CHECK.due("exactShare()", x.exactShare(), 1.0);
    }

    private static void exactShareOfAllAndOfSome() {
        CHECK.at("25: how many sales paid no coin, divided by the number of sales");
        CHECK.unchanged("exactShare()", 0.0, Machines::inUse, x -> x.exactShare());
        CoinMechanism x = ones(0);
        sale(x, 3);
        CHECK.due("exactShare(), 1 of 1", x.exactShare(), 1.0);
        sale(x, 4);
        CHECK.due("exactShare(), 1 of 2", x.exactShare(), 0.5);
        sale(x, 4);
        CHECK.due("exactShare(), 1 of 3", x.exactShare(), 1.0 / 3.0);
        CHECK.due("refund()", x.refund(), true);
        CHECK.due("exactShare() after a refund", x.exactShare(), 1.0 / 3.0);
        for (int sales = 4; sales <= 60; sales++) {
            sale(x, 3);
            CHECK.due("exactShare()", x.exactShare(), (sales - 2.0) / sales);
        }
        CHECK.due("exactShare(), 58 of 60", x.exactShare(), 0.9666666666666667);
    }

    // ---- promise 26

    /** The checksum by numbers without a bound, cut to 64 bits at the end. */
    private static BigInteger unbounded(List<Long> numbers) {
        BigInteger d = BigInteger.valueOf(181);
        for (long x : numbers) {
            d = d.multiply(BigInteger.valueOf(31)).add(BigInteger.valueOf(x));
        }
        return d;
    }

    /** What digest() is made of, as the mechanism tells it. */
    private static List<Long> told(CoinMechanism x, boolean[] accepted, int limit, int products, int waiting) {
        List<Long> numbers = new ArrayList<>();
        numbers.add((long) accepted.length);
        for (int kind = 0; kind < accepted.length; kind++) {
            for (int what = 0; what <= 3; what++) {
                numbers.add((long) x.coins(kind, what));
            }
            numbers.add(accepted[kind] ? 1L : 0L);
        }
        numbers.add((long) limit);
        numbers.add((long) products);
        for (int product = 0; product < products; product++) {
            numbers.add((long) x.product(product, false));
            numbers.add((long) x.product(product, true));
        }
        numbers.add((long) waiting);
        for (int index = 0; index < waiting; index++) {
            numbers.add((long) x.escrow(index));
        }
        for (int what = 0; what <= 9; what++) {
            numbers.add(x.audit(what));
        }
        return numbers;
    }

    private static void dueDigest(CoinMechanism x, int limit, int products, int waiting, boolean... accepted) {
        CHECK.due("digest()", x.digest(), unbounded(told(x, accepted, limit, products, waiting)).longValue());
    }

    private static void digestOfNothing() {
        CHECK.at("26: no kinds, no products, an empty escrow");
        List<Long> numbers = new ArrayList<>();
        for (int x : new int[] {0, 1000, 0, 0, 0, 0, 0, 0, 0, 0, 0, 0, 0, 0}) {
            numbers.add((long) x);
        }
        CHECK.unchanged("digest()", unbounded(numbers).longValue(), Machines::fresh, x -> x.digest());
        dueDigest(Machines.fresh(), 1000, 0, 0);
    }

    private static void digestOfEverything() {
        CHECK.at("26: 8 kinds, 10 products, 12 coins in the escrow");
        CoinMechanism x = Machines.full();
        dueDigest(x, 1000, 10, 12, true, true, true, true, true, true, true, true);
        x.buy(0);
        x.accept(7, false);
        x.accept(0, false);
        x.setLimit(0);
        dueDigest(x, 0, 10, 0, false, true, true, true, true, true, true, false);
        dueDigest(Machines.inUse(), 500, 2, 3, true, true, true, false);
        dueDigest(Machines.small(), 1000, 1, 0, true, true, true);
    }

    private static void digestWrapsAround() {
        CHECK.at("26: d becomes d * 31 + x, which wraps around as a 64-bit integer");
        CHECK.due("digest() of a new one goes beyond 63 bits",
            unbounded(told(Machines.fresh(), new boolean[0], 1000, 0, 0)).bitLength() > 63, true);
        boolean isBelow0 = false;
        boolean isAbove0 = false;
        CoinMechanism x = new CoinMechanism();
        for (int limit = 0; limit <= 100; limit++) {
            x.setLimit(limit);
            dueDigest(x, limit, 0, 0);
            isBelow0 |= x.digest() < 0;
            isAbove0 |= x.digest() > 0;
        }
        CHECK.due("digests on both sides of 0", isBelow0 && isAbove0, true);
    }

    private static void digestTellsOfEachNumber() {
        CHECK.at("26: for each of the following numbers");
        MachineCheck.Ask[] changes = {x -> x.addKind(7, 0), x -> x.take(0, 1), x -> x.emptyBox(), x -> x.buy(1),
            x -> x.accept(0, false), x -> x.accept(3, true), x -> x.setLimit(501), x -> x.addProduct(1, 0),
            x -> x.setProduct(1, 21, 1), x -> x.setProduct(1, 20, 2), x -> x.insert(0), x -> x.cancel(),
            x -> x.fill(2, 1), x -> x.refund()};
        long before = Machines.inUse().digest();
        List<Long> seen = new ArrayList<>();
        for (int i = 0; i < changes.length; i++) {
            CoinMechanism x = Machines.inUse();
            changes[i].of(x);
            CHECK.due("digest() is another after change " + i, x.digest() != before, true);
            CHECK.due("digest() is like no other after change " + i, seen.contains(x.digest()), false);
            seen.add(x.digest());
        }
        CHECK.due("digest(), the same calls again", Machines.inUse().digest(), before);
    }

    // ---- objects

    private static void noOtherObjectIsTouched() {
        CHECK.at("1: creates a mechanism of its own");
        CoinMechanism x = Machines.inUse();
        long before = x.digest();
        CoinMechanism y = Machines.full();
        y.buy(9);
        y.refund();
        y.fewest(2000);
        CHECK.due("digest() of the first", x.digest(), before);
        CHECK.due("fewest(55) of the first", x.fewest(55), 7);
        CHECK.due("refund() of the first", x.refund(), true);
        CHECK.dueThrow("refund() of the second", STATE, () -> y.refund());
        CHECK.due("fewest(55) of the second", y.fewest(55), -1);
    }

    private static void upTo512Calls() {
        CHECK.at("What it is: at most 512 calls");
        CoinMechanism x = Machines.withTubes(new int[] {1, 2, 3, 4, 5, 6, 7, 500}, new int[] {60, 60, 60, 60, 60, 60, 60, 60});
        for (int product = 0; product < 10; product++) {
            x.addProduct(1 + product, 99);
        }
        // 26 calls were made; 486 are left.
        for (int round = 0; round < 81; round++) {
            CHECK.due("fewest(2000)", x.fewest(2000), 4);
            CHECK.due("part(2000, 7)", x.part(2000, 7), 4);
            CHECK.due("below(2000)", x.below(2000), 2000);
            CHECK.due("gaps(2000)", x.gaps(2000), 0);
            CHECK.due("lamp()", x.lamp(), false);
            CHECK.due("unit()", x.unit(), 1);
        }
    }
}
