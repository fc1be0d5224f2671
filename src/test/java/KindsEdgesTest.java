/** The edges that the document names for coins, tubes and the box: its Description and promises 1 to 6. */
public final class KindsEdgesTest {
    private static final Class<IllegalArgumentException> ARGUMENT = MachineCheck.ARGUMENT;
    private static final Class<IllegalStateException> STATE = MachineCheck.STATE;
    private static final Class<IndexOutOfBoundsException> INDEX = MachineCheck.INDEX;
    private static final MachineCheck CHECK = new MachineCheck();

    public static void main(String[] args) {
        CHECK.run(
            KindsEdgesTest::withoutKindsAndProducts,
            KindsEdgesTest::nothingCountedPaidOrSold,
            KindsEdgesTest::atMostEightKinds,
            KindsEdgesTest::numberedInOrder,
            KindsEdgesTest::value1To500,
            KindsEdgesTest::capacity0To60,
            KindsEdgesTest::noTwoTheSame,
            KindsEdgesTest::firstNamedOfAddKind,
            KindsEdgesTest::acceptedAtFirst,
            KindsEdgesTest::allAreEmptyAtFirst,
            KindsEdgesTest::boxWithoutLimit,
            KindsEdgesTest::fillOfNoSuchKind,
            KindsEdgesTest::fillAsManyAsHaveRoom,
            KindsEdgesTest::fillMany0To60,
            KindsEdgesTest::takeOfNoSuchKind,
            KindsEdgesTest::takeAsManyAsThereAre,
            KindsEdgesTest::takeMany0To60,
            KindsEdgesTest::emptyBoxWithNothing,
            KindsEdgesTest::emptyBoxOfAllKinds,
            KindsEdgesTest::acceptOfNoSuchKind,
            KindsEdgesTest::acceptTellsBefore);
        CHECK.end();
    }

    /** Kinds 10, 11, .. with tubes for 0, 1, .. coins. */
    private static CoinMechanism withKinds(int many) {
        CoinMechanism x = new CoinMechanism();
        for (int i = 0; i < many; i++) {
            x.addKind(10 + i, i);
        }
        return x;
    }

    // ---- promise 1

    private static void withoutKindsAndProducts() {
        CHECK.at("1: a mechanism without kinds of coins and products");
        CoinMechanism used = Machines.full();
        CoinMechanism x = new CoinMechanism();
        for (int number = -1; number <= 10; number++) {
            int n = number;
            CHECK.dueThrow("coins(" + n + ", 0)", INDEX, () -> x.coins(n, 0));
            CHECK.dueThrow("product(" + n + ", true)", INDEX, () -> x.product(n, true));
            CHECK.dueThrow("insert(" + n + ")", INDEX, () -> x.insert(n));
            CHECK.dueThrow("buy(" + n + ")", INDEX, () -> x.buy(n));
            CHECK.dueThrow("escrow(" + n + ")", INDEX, () -> x.escrow(n));
        }
        CHECK.due("addKind(10, 1)", x.addKind(10, 1), 0);
        CHECK.due("addProduct(10, 1)", x.addProduct(10, 1), 0);
        CHECK.due("the used one has its 8 kinds", used.coins(7, 0), 10);
    }

    private static void nothingCountedPaidOrSold() {
        CHECK.at("1: nothing was counted, paid or sold");
        CoinMechanism used = Machines.inUse();
        CoinMechanism x = new CoinMechanism();
        CHECK.dueAudit(x);
        CHECK.dueThrow("refund()", STATE, () -> x.refund());
        CHECK.due("exactShare()", x.exactShare(), 1.0);
        CHECK.due("credit()", x.credit(), 0);
        CHECK.due("cancel()", x.cancel(), 0);
        CHECK.due("emptyBox()", x.emptyBox(), 0);
        CHECK.due("lamp()", x.lamp(), false);
        CHECK.due("unit()", x.unit(), 0);
        CHECK.dueAudit(x);
        CHECK.due("the used one can take its sale back", used.refund(), true);
    }

    // ---- promise 2

    private static void atMostEightKinds() {
        CHECK.at("Description: there are at most 8 kinds of coins");
        for (int many = 0; many < 8; many++) {
            CHECK.due("addKind(400, 9) to " + many, withKinds(many).addKind(400, 9), many);
        }
        CHECK.refused("addKind(400, 9) to 8", STATE, () -> withKinds(8), x -> x.addKind(400, 9));
        CHECK.refused("addKind(1, 0) to 8", STATE, () -> withKinds(8), x -> x.addKind(1, 0));
        CHECK.refused("addKind(500, 60) to 8", STATE, Machines::full, x -> x.addKind(500, 60));
        CoinMechanism x = withKinds(8);
        for (int i = 0; i < 9; i++) {
            CHECK.dueThrow("addKind(400, 9), again", STATE, () -> x.addKind(400, 9));
        }
        CHECK.due("coins(7, 0)", x.coins(7, 0), 17);
        CHECK.dueThrow("coins(8, 0)", INDEX, () -> x.coins(8, 0));
    }

    private static void numberedInOrder() {
        CHECK.at("Description: numbered from 0 in the order of their creation");
        CoinMechanism x = new CoinMechanism();
        int[] values = {20, 500, 1, 7, 300, 2, 499, 50};
        for (int i = 0; i < 8; i++) {
            CHECK.due("addKind(" + values[i] + ", 1)", x.addKind(values[i], 1), i);
            CHECK.dueThrow("addKind(501, 1) takes no number", ARGUMENT, () -> x.addKind(501, 1));
            CHECK.dueThrow("addKind(20, 1) takes no number", STATE, () -> x.addKind(20, 1));
        }
        CHECK.dueCoins(x, 0, values);
    }

    private static void value1To500() {
        CHECK.at("2: if value is not 1 to 500");
        CHECK.refusedOutside("addKind(#, 5)", ARGUMENT, 1, 500, Machines::fresh, (x, v) -> x.addKind(v, 5));
        CHECK.refusedOutside("addKind(#, 5)", ARGUMENT, 1, 500, Machines::inUse, (x, v) -> x.addKind(v, 5));
        CoinMechanism x = new CoinMechanism();
        CHECK.due("addKind(500, 5)", x.addKind(500, 5), 0);
        CHECK.due("addKind(1, 5)", x.addKind(1, 5), 1);
        CHECK.due("addKind(499, 5)", x.addKind(499, 5), 2);
        CHECK.due("addKind(2, 5)", x.addKind(2, 5), 3);
        CHECK.dueCoins(x, 0, 500, 1, 499, 2);
    }

    private static void capacity0To60() {
        CHECK.at("2: or capacity is not 0 to 60");
        CHECK.refusedOutside("addKind(7, #)", ARGUMENT, 0, 60, Machines::fresh, (x, c) -> x.addKind(7, c));
        CHECK.refusedOutside("addKind(7, #)", ARGUMENT, 0, 60, Machines::inUse, (x, c) -> x.addKind(7, c));
        CoinMechanism x = new CoinMechanism();
        int[] capacities = {0, 60, 1, 59};
        for (int i = 0; i < 4; i++) {
            CHECK.due("addKind(.., " + capacities[i] + ")", x.addKind(10 + i, capacities[i]), i);
            CHECK.due("fill(" + i + ", 60)", x.fill(i, 60), 60 - capacities[i]);
        }
        CHECK.dueCoins(x, 1, capacities);
    }

    private static void noTwoTheSame() {
        CHECK.at("2: or one of them has this value");
        for (int value = 10; value <= 16; value++) {
            int v = value;
            CHECK.refused("addKind(" + v + ", 60)", STATE, () -> withKinds(7), x -> x.addKind(v, 60));
        }
        CHECK.refused("addKind(100, 5), not accepted now", STATE, Machines::inUse, x -> x.addKind(100, 5));
        CoinMechanism x = new CoinMechanism();
        CHECK.due("addKind(1, 1)", x.addKind(1, 1), 0);
        CHECK.dueThrow("addKind(1, 1)", STATE, () -> x.addKind(1, 1));
        CHECK.dueThrow("addKind(1, 0)", STATE, () -> x.addKind(1, 0));
        CHECK.due("addKind(500, 1)", x.addKind(500, 1), 1);
        CHECK.dueThrow("addKind(500, 1)", STATE, () -> x.addKind(500, 1));
        CHECK.due("addKind(2, 1), next to it", x.addKind(2, 1), 2);
    }

    private static void firstNamedOfAddKind() {
        CHECK.at("2: of several exceptions the one that is named first");
        CHECK.refused("addKind(0, 5) to 8", ARGUMENT, Machines::full, x -> x.addKind(0, 5));
        CHECK.refused("addKind(501, 5) to 8", ARGUMENT, Machines::full, x -> x.addKind(501, 5));
        CHECK.refused("addKind(7, -1) to 8", ARGUMENT, Machines::full, x -> x.addKind(7, -1));
        CHECK.refused("addKind(7, 61) to 8", ARGUMENT, Machines::full, x -> x.addKind(7, 61));
        CHECK.refused("addKind(10, 61), a value that is there", ARGUMENT, Machines::inUse, x -> x.addKind(10, 61));
        CHECK.refused("addKind(10, -1), a value that is there", ARGUMENT, Machines::inUse, x -> x.addKind(10, -1));
    }

    private static void acceptedAtFirst() {
        CHECK.at("Description: accepted, at first");
        CoinMechanism x = withKinds(8);
        for (int kind = 0; kind < 8; kind++) {
            CHECK.due("insert(" + kind + ")", x.insert(kind), 0);
            CHECK.due("accept(" + kind + ", false)", x.accept(kind, false), true);
        }
    }

    private static void allAreEmptyAtFirst() {
        CHECK.at("Description: at first all are empty");
        CoinMechanism x = Machines.inUse();
        CHECK.due("addKind(1, 60)", x.addKind(1, 60), 4);
        for (int what = 1; what <= 3; what++) {
            CHECK.due("coins(4, " + what + ") of a kind that is new", x.coins(4, what), 0);
        }
        CHECK.due("take(4, 60)", x.take(4, 60), 0);
        CoinMechanism y = withKinds(8);
        for (int what = 1; what <= 3; what++) {
            CHECK.dueCoins(y, what, 0, 0, 0, 0, 0, 0, 0, 0);
        }
    }

    private static void boxWithoutLimit() {
        CHECK.at("Description: a box for coins of all kinds, without a limit");
        CoinMechanism x = new CoinMechanism();
        x.addKind(1, 0);
        x.addProduct(12, 99);
        for (int sale = 0; sale < 38; sale++) {
            CHECK.insertAll(x, 0, 0, 0, 0, 0, 0, 0, 0, 0, 0, 0, 0);
            CHECK.due("buy(0)", x.buy(0), 0);
        }
        CHECK.due("coins(0, 2)", x.coins(0, 2), 38 * 12);
        CHECK.due("emptyBox()", x.emptyBox(), 38 * 12);
        CHECK.due("coins(0, 2) then", x.coins(0, 2), 0);
        CHECK.due("emptyBox() again", x.emptyBox(), 0);
        CoinMechanism y = new CoinMechanism();
        y.addKind(500, 0);
        y.addProduct(2000, 99);
        y.setLimit(2000);
        for (int sale = 0; sale < 99; sale++) {
            CHECK.insertAll(y, 0, 0, 0, 0);
            CHECK.due("buy(0)", y.buy(0), 0);
        }
        CHECK.due("coins(0, 2)", y.coins(0, 2), 396);
        CHECK.due("emptyBox()", y.emptyBox(), 198_000);
        CHECK.due("coins(0, 2) then", y.coins(0, 2), 0);
        CHECK.dueAudit(y, 198_000, 0, 0, 0, 0, 0, 198_000, 198_000, 99, 99);
    }

    // ---- promise 3

    private static void fillOfNoSuchKind() {
        CHECK.at("3: fill throws if there is no such kind");
        CHECK.refusedOutside("fill(#, 1)", INDEX, 0, -1, Machines::fresh, (x, k) -> x.fill(k, 1));
        CHECK.refusedOutside("fill(#, 1)", INDEX, 0, 3, Machines::inUse, (x, k) -> x.fill(k, 1));
        CHECK.refusedOutside("fill(#, 0)", INDEX, 0, 7, Machines::full, (x, k) -> x.fill(k, 0));
        CHECK.refused("fill(4, 61): the first named", INDEX, Machines::inUse, x -> x.fill(4, 61));
        CHECK.refused("fill(-1, -1): the first named", INDEX, Machines::inUse, x -> x.fill(-1, -1));
        CoinMechanism x = withKinds(8);
        CHECK.due("fill(7, 7), the last kind", x.fill(7, 7), 0);
        CHECK.dueCoins(x, 1, 0, 0, 0, 0, 0, 0, 0, 7);
    }

    private static void fillAsManyAsHaveRoom() {
        CHECK.at("3: fills coins into a tube, as many as have room");
        CoinMechanism x = new CoinMechanism();
        x.addKind(20, 5);
        x.addKind(30, 0);
        CHECK.due("fill(0, 4): one place is left", x.fill(0, 4), 0);
        CHECK.due("fill(0, 2): one too many", x.fill(0, 2), 1);
        CHECK.dueCoins(x, 1, 5, 0);
        CHECK.due("fill(0, 1) of a full tube", x.fill(0, 1), 1);
        CHECK.due("fill(0, 60) of a full tube", x.fill(0, 60), 60);
        CHECK.due("fill(1, 60) of a tube for none", x.fill(1, 60), 60);
        CHECK.dueCoins(x, 1, 5, 0);
        CHECK.dueCoins(x, 2, 0, 0);
        CHECK.due("take(0, 5)", x.take(0, 5), 5);
        CHECK.due("fill(0, 5): just full", x.fill(0, 5), 0);
        CHECK.due("take(0, 2)", x.take(0, 2), 2);
        CHECK.due("fill(0, 6): two places", x.fill(0, 6), 4);
        CHECK.dueAudit(x, 0, 0, 0, 0, 240, 140);
        CHECK.unchanged("fill(2, 60) when all is full", 60, Machines::full, y -> y.fill(2, 60));
    }

    private static void fillMany0To60() {
        CHECK.at("3: fill throws if many is not 0 to 60");
        CHECK.refusedOutside("fill(2, #)", ARGUMENT, 0, 60, Machines::inUse, (x, m) -> x.fill(2, m));
        CHECK.refusedOutside("fill(2, #)", ARGUMENT, 0, 60, Machines::full, (x, m) -> x.fill(2, m));
        CHECK.unchanged("fill(2, 0)", 0, Machines::inUse, x -> x.fill(2, 0));
        CHECK.unchanged("fill(3, 0) of a tube for none", 0, Machines::inUse, x -> x.fill(3, 0));
        CHECK.unchanged("fill(7, 0) of a full tube", 0, Machines::full, x -> x.fill(7, 0));
        CoinMechanism x = new CoinMechanism();
        x.addKind(500, 60);
        CHECK.due("fill(0, 60)", x.fill(0, 60), 0);
        CHECK.due("coins(0, 1)", x.coins(0, 1), 60);
        CHECK.due("audit(4)", x.audit(4), 30_000L);
    }

    // ---- promise 4

    private static void takeOfNoSuchKind() {
        CHECK.at("4: take throws if there is no such kind");
        CHECK.refusedOutside("take(#, 1)", INDEX, 0, -1, Machines::fresh, (x, k) -> x.take(k, 1));
        CHECK.refusedOutside("take(#, 1)", INDEX, 0, 3, Machines::inUse, (x, k) -> x.take(k, 1));
        CHECK.refusedOutside("take(#, 0)", INDEX, 0, 7, Machines::full, (x, k) -> x.take(k, 0));
        CHECK.refused("take(4, 61): the first named", INDEX, Machines::inUse, x -> x.take(4, 61));
        CHECK.refused("take(-1, -1): the first named", INDEX, Machines::inUse, x -> x.take(-1, -1));
        CoinMechanism x = Machines.full();
        CHECK.due("take(7, 60), the last kind", x.take(7, 60), 60);
        CHECK.dueCoins(x, 1, 60, 60, 60, 60, 60, 60, 60, 0);
    }

    private static void takeAsManyAsThereAre() {
        CHECK.at("4: takes coins out of a tube, as many as there are");
        CoinMechanism x = new CoinMechanism();
        x.addKind(20, 5);
        x.addKind(30, 0);
        CHECK.due("take(0, 1) of an empty tube", x.take(0, 1), 0);
        CHECK.due("take(1, 60) of a tube for none", x.take(1, 60), 0);
        CHECK.dueAudit(x);
        x.fill(0, 5);
        CHECK.due("take(0, 4): one is left", x.take(0, 4), 4);
        CHECK.dueCoins(x, 1, 1, 0);
        CHECK.due("take(0, 2): one too many", x.take(0, 2), 1);
        CHECK.dueCoins(x, 1, 0, 0);
        x.fill(0, 3);
        CHECK.due("take(0, 3): just all", x.take(0, 3), 3);
        CHECK.due("take(0, 60)", x.take(0, 60), 0);
        CHECK.dueAudit(x, 0, 0, 0, 0, 160, 160);
        CoinMechanism y = Machines.small();
        CHECK.insertAll(y, 0, 0);
        CHECK.due("take(0, 2): coins in the escrow are not in the tube", y.take(0, 2), 0);
        CHECK.unchanged("take(1, 1): coins in the box are not in the tube", 0, Machines::inUse, z -> z.take(1, 1));
    }

    private static void takeMany0To60() {
        CHECK.at("4: take throws if many is not 0 to 60");
        CHECK.refusedOutside("take(2, #)", ARGUMENT, 0, 60, Machines::inUse, (x, m) -> x.take(2, m));
        CHECK.refusedOutside("take(2, #)", ARGUMENT, 0, 60, Machines::full, (x, m) -> x.take(2, m));
        CHECK.refused("take(1, 61) of an empty tube", ARGUMENT, Machines::inUse, x -> x.take(1, 61));
        CHECK.unchanged("take(2, 0)", 0, Machines::inUse, x -> x.take(2, 0));
        CHECK.unchanged("take(2, 0) of a full tube", 0, Machines::full, x -> x.take(2, 0));
        CoinMechanism x = new CoinMechanism();
        x.addKind(500, 60);
        x.fill(0, 60);
        CHECK.due("take(0, 60)", x.take(0, 60), 60);
        CHECK.due("coins(0, 1)", x.coins(0, 1), 0);
        CHECK.due("audit(5)", x.audit(5), 30_000L);
    }

    // ---- promise 5

    private static void emptyBoxWithNothing() {
        CHECK.at("5: an empty box");
        CHECK.unchanged("emptyBox() without kinds", 0, Machines::fresh, x -> x.emptyBox());
        CHECK.unchanged("emptyBox() when only tubes and escrow have coins", 0, Machines::full, x -> x.emptyBox());
        CoinMechanism x = Machines.inUse();
        CHECK.due("emptyBox()", x.emptyBox(), 150);
        CHECK.due("emptyBox() again", x.emptyBox(), 0);
        CHECK.due("audit(6)", x.audit(6), 150L);
    }

    private static void emptyBoxOfAllKinds() {
        CHECK.at("5: the sum of the values of its coins");
        CoinMechanism x = new CoinMechanism();
        for (int kind = 0; kind < 8; kind++) {
            x.addKind(1 << kind, 0);
        }
        x.addProduct(255, 2);
        for (int sale = 1; sale <= 2; sale++) {
            CHECK.insertAll(x, 0, 1, 2, 3, 4, 5, 6, 7);
            CHECK.due("buy(0)", x.buy(0), 0);
        }
        x.accept(7, false);
        CHECK.insertAll(x, 0);
        CHECK.dueCoins(x, 2, 2, 2, 2, 2, 2, 2, 2, 2);
        CHECK.due("emptyBox(), a kind not accepted too", x.emptyBox(), 510);
        CHECK.dueCoins(x, 2, 0, 0, 0, 0, 0, 0, 0, 0);
        CHECK.dueEscrow(x, 0);
        CoinMechanism y = Machines.inUse();
        y.emptyBox();
        CHECK.dueCoins(y, 1, 4, 0, 3, 0);
        CHECK.dueCoins(y, 3, 3, 1, 17, 0);
        CHECK.dueEscrow(y, 0, 2, 1);
    }

    // ---- promise 6

    private static void acceptOfNoSuchKind() {
        CHECK.at("6: accept throws if there is no such kind");
        CHECK.refusedOutside("accept(#, false)", INDEX, 0, -1, Machines::fresh, (x, k) -> x.accept(k, false));
        CHECK.refusedOutside("accept(#, false)", INDEX, 0, 3, Machines::inUse, (x, k) -> x.accept(k, false));
        CHECK.refusedOutside("accept(#, true)", INDEX, 0, 7, Machines::full, (x, k) -> x.accept(k, true));
        CHECK.due("accept(7, false), the last kind", Machines.full().accept(7, false), true);
        CHECK.due("accept(0, false), the first kind", Machines.full().accept(0, false), true);
    }

    private static void acceptTellsBefore() {
        CHECK.at("6: whether it was before");
        CHECK.unchanged("accept(0, true), as it was", true, Machines::inUse, x -> x.accept(0, true));
        CHECK.unchanged("accept(3, false), as it was", false, Machines::inUse, x -> x.accept(3, false));
        CoinMechanism x = Machines.inUse();
        CHECK.due("accept(0, false)", x.accept(0, false), true);
        CHECK.due("accept(0, false)", x.accept(0, false), false);
        CHECK.due("insert(0)", x.insert(0), 1);
        CHECK.due("insert(2): only that kind", x.insert(2), 0);
        CHECK.due("accept(0, true)", x.accept(0, true), false);
        CHECK.due("accept(0, true)", x.accept(0, true), true);
        CHECK.due("insert(0)", x.insert(0), 0);
        CHECK.dueEscrow(x, 0, 2, 1, 2, 0);
    }
}
