/** The edges that the document names for coins and sales: promises 11 to 17. */
public final class SalesEdgesTest {
    private static final Class<IllegalStateException> STATE = MachineCheck.STATE;
    private static final Class<IndexOutOfBoundsException> INDEX = MachineCheck.INDEX;
    private static final MachineCheck CHECK = new MachineCheck();

    public static void main(String[] args) {
        CHECK.run(
            SalesEdgesTest::insertOfNoSuchKind,
            SalesEdgesTest::insertWhatIsNotAccepted,
            SalesEdgesTest::insertWith12Coins,
            SalesEdgesTest::insertAboveTheLimit,
            SalesEdgesTest::insertInTheEscrowAlone,
            SalesEdgesTest::cancelWithNothing,
            SalesEdgesTest::cancelWith12Coins,
            SalesEdgesTest::buyNoSuchProduct,
            SalesEdgesTest::buyWithStock0,
            SalesEdgesTest::buyWithLessThanThePrice,
            SalesEdgesTest::buyWithJustThePrice,
            SalesEdgesTest::buyWithoutChange,
            SalesEdgesTest::buyThatFailsLeavesTheSaleBefore,
            SalesEdgesTest::buyWithCreditAtTheLimit,
            SalesEdgesTest::buyDropsIntoTheLastPlace,
            SalesEdgesTest::buyDropsAFullEscrow,
            SalesEdgesTest::buyPaysWithTheseCoins,
            SalesEdgesTest::refundWhenNothingWasSold,
            SalesEdgesTest::refundWhenTakenBack,
            SalesEdgesTest::refundOfNoEarlierSale,
            SalesEdgesTest::refundAfterEachOtherCall,
            SalesEdgesTest::refundThatCannotBePaid,
            SalesEdgesTest::refundOfThePriceThen,
            SalesEdgesTest::refundFromTheTubesAlone,
            SalesEdgesTest::refundToStock99,
            SalesEdgesTest::refundOf2000,
            SalesEdgesTest::creditOfNothingAndOfAll,
            SalesEdgesTest::escrowOfNoSuchIndex,
            SalesEdgesTest::escrowInOrder,
            SalesEdgesTest::coinsOfNoSuchKind,
            SalesEdgesTest::coinsWhat0To3,
            SalesEdgesTest::coinsPaidLast);
        CHECK.end();
    }

    /** Kind 0 of value 1, tube for 60; product 0 at this price. */
    private static CoinMechanism ones(int inTube, int price, int stock) {
        CoinMechanism x = Machines.withTubes(new int[] {1}, new int[] {inTube});
        x.addProduct(price, stock);
        return x;
    }

    /** inUse() with 12 coins in the escrow, credit 110. */
    private static CoinMechanism with12Coins() {
        CoinMechanism x = Machines.inUse();
        for (int i = 0; i < 9; i++) {
            x.insert(2);
        }
        return x;
    }

    private static CoinMechanism limited(CoinMechanism x, int limit) {
        x.setLimit(limit);
        return x;
    }

    private static CoinMechanism notAccepting(CoinMechanism x, int kind) {
        x.accept(kind, false);
        return x;
    }

    // ---- promise 11

    private static void insertOfNoSuchKind() {
        CHECK.at("11: insert throws if there is no such kind");
        CHECK.refusedOutside("insert(#)", INDEX, 0, -1, Machines::fresh, (x, k) -> x.insert(k));
        CHECK.refusedOutside("insert(#)", INDEX, 0, 3, Machines::inUse, (x, k) -> x.insert(k));
        CHECK.refusedOutside("insert(#), a full escrow", INDEX, 0, 7, Machines::full, (x, k) -> x.insert(k));
    }

    private static void insertWhatIsNotAccepted() {
        CHECK.at("11: the answer is 1 if the kind is not accepted");
        CHECK.unchanged("insert(3)", 1, Machines::inUse, x -> x.insert(3));
        CHECK.unchanged("insert(3), above the limit too", 1, () -> limited(Machines.inUse(), 0), x -> x.insert(3));
        CHECK.unchanged("insert(3), 12 coins too", 1, SalesEdgesTest::with12Coins, x -> x.insert(3));
        CHECK.unchanged("insert(0), all three", 1,
            () -> limited(notAccepting(Machines.full(), 0), 0), x -> x.insert(0));
        CHECK.unchanged("insert(7), the last kind", 1, () -> notAccepting(Machines.full(), 7), x -> x.insert(7));
    }

    private static void insertWith12Coins() {
        CHECK.at("11: 2 if there are 12 coins in the escrow");
        CHECK.unchanged("insert(0)", 2, SalesEdgesTest::with12Coins, x -> x.insert(0));
        CHECK.unchanged("insert(7)", 2, Machines::full, x -> x.insert(7));
        CHECK.unchanged("insert(7), above the limit too", 2, () -> limited(Machines.full(), 400), x -> x.insert(7));
        CoinMechanism x = ones(0, 12, 5);
        for (int i = 1; i <= 12; i++) {
            CHECK.due("insert(0), coin " + i, x.insert(0), 0);
        }
        CHECK.due("insert(0), coin 13", x.insert(0), 2);
        CHECK.due("insert(0), coin 13 again", x.insert(0), 2);
        CHECK.due("credit()", x.credit(), 12);
        CHECK.due("buy(0)", x.buy(0), 0);
        for (int i = 1; i <= 12; i++) {
            CHECK.due("insert(0) after a sale, coin " + i, x.insert(0), 0);
        }
        CHECK.due("insert(0) after a sale, coin 13", x.insert(0), 2);
        CHECK.due("cancel()", x.cancel(), 12);
        for (int i = 1; i <= 12; i++) {
            CHECK.due("insert(0) after a cancel, coin " + i, x.insert(0), 0);
        }
        CHECK.due("insert(0) after a cancel, coin 13", x.insert(0), 2);
        CHECK.due("audit(0)", x.audit(0), 36L);
    }

    private static void insertAboveTheLimit() {
        CHECK.at("11: otherwise 3 if the credit would be greater than the limit");
        CHECK.unchanged("insert(2): 70 of 69", 3, () -> limited(Machines.inUse(), 69), x -> x.insert(2));
        CHECK.unchanged("insert(2): 70 of 65", 3, () -> limited(Machines.inUse(), 65), x -> x.insert(2));
        CHECK.unchanged("insert(2): 70 of 0", 3, () -> limited(Machines.inUse(), 0), x -> x.insert(2));
        CoinMechanism x = limited(Machines.inUse(), 70);
        CHECK.due("insert(0): 75 of 70", x.insert(0), 3);
        CHECK.due("insert(2): 70 of 70", x.insert(2), 0);
        CHECK.due("insert(2): 75 of 70", x.insert(2), 3);
        CHECK.due("credit()", x.credit(), 70);
        CoinMechanism y = limited(ones(0, 1, 1), 11);
        CHECK.insertAll(y, 0, 0, 0, 0, 0, 0, 0, 0, 0, 0, 0);
        CHECK.due("insert(0): 12 of 11", y.insert(0), 3);
        CHECK.due("setLimit(12)", y.setLimit(12), 11);
        CHECK.due("insert(0): 12 of 12", y.insert(0), 0);
        CHECK.due("insert(0): 13 coins", y.insert(0), 2);
    }

    private static void insertInTheEscrowAlone() {
        CHECK.at("11: 0 if it is in the escrow then");
        CoinMechanism x = Machines.full();
        x.cancel();
        CHECK.due("insert(3) when the tube is full", x.insert(3), 0);
        CHECK.due("coins(3, 1)", x.coins(3, 1), 60);
        CHECK.due("coins(3, 2)", x.coins(3, 2), 0);
        CHECK.dueEscrow(x, 3);
        CHECK.due("audit(0)", x.audit(0), 450L);
    }

    // ---- promise 12

    private static void cancelWithNothing() {
        CHECK.at("12: cancel of an empty escrow");
        CHECK.unchanged("cancel()", 0, Machines::fresh, x -> x.cancel());
        CoinMechanism x = Machines.inUse();
        CHECK.due("cancel()", x.cancel(), 65);
        CHECK.due("cancel() again", x.cancel(), 0);
        CHECK.due("audit(1)", x.audit(1), 65L);
        CHECK.due("cancel() after a sale", bought(Machines.inUse(), 0).cancel(), 0);
    }

    private static CoinMechanism bought(CoinMechanism x, int product) {
        CHECK.due("buy(" + product + ")", x.buy(product), 0);
        return x;
    }

    private static void cancelWith12Coins() {
        CHECK.at("12: gives back the coins in the escrow, the sum of their values");
        CoinMechanism x = Machines.full();
        CHECK.due("cancel()", x.cancel(), 400);
        CHECK.dueEscrow(x);
        CHECK.due("credit()", x.credit(), 0);
        CHECK.dueCoins(x, 1, 60, 60, 60, 60, 60, 60, 60, 60);
        CHECK.dueCoins(x, 2, 0, 0, 0, 0, 0, 0, 0, 0);
        CHECK.dueAudit(x, 400, 400, 0, 0, 21_600);
        CoinMechanism y = notAccepting(limited(Machines.inUse(), 0), 1);
        CHECK.due("cancel(), a kind not accepted and a limit of 0", y.cancel(), 65);
        CHECK.dueCoins(y, 3, 3, 1, 17, 0);
        CHECK.due("refund() is as before", y.refund(), true);
        CoinMechanism z = limited(ones(0, 1, 1), 2000);
        z.addKind(500, 0);
        CHECK.insertAll(z, 1, 1, 1, 1);
        CHECK.due("cancel()", z.cancel(), 2000);
    }

    // ---- promise 13

    private static void buyNoSuchProduct() {
        CHECK.at("13: buy throws if there is no such product");
        CHECK.refusedOutside("buy(#)", INDEX, 0, -1, Machines::fresh, (x, p) -> x.buy(p));
        CHECK.refusedOutside("buy(#)", INDEX, 0, 1, Machines::inUse, (x, p) -> x.buy(p));
        CHECK.refusedOutside("buy(#)", INDEX, 0, 9, Machines::full, (x, p) -> x.buy(p));
        CoinMechanism x = Machines.full();
        CHECK.due("buy(9), the last", x.buy(9), 0);
        CHECK.dueProduct(x, 9, 190, 98);
    }

    private static void buyWithStock0() {
        CHECK.at("13: the answer is 1 if its stock is 0");
        CHECK.unchanged("buy(0)", 1, () -> inserted(ones(9, 3, 0), 3), x -> x.buy(0));
        CHECK.unchanged("buy(0), too little credit too", 1, () -> inserted(ones(9, 3, 0), 2), x -> x.buy(0));
        CHECK.unchanged("buy(0), no change too", 1, SalesEdgesTest::soldOutAndNoChange, x -> x.buy(0));
        CoinMechanism x = inserted(ones(0, 3, 1), 3);
        CHECK.due("buy(0), the last one", x.buy(0), 0);
        CHECK.dueProduct(x, 0, 3, 0);
        CHECK.insertAll(x, 0, 0, 0);
        CHECK.due("buy(0), none is left", x.buy(0), 1);
        CHECK.dueProduct(x, 0, 3, 0);
        CHECK.due("refund()", x.refund(), true);
        CHECK.due("buy(0), it is back", x.buy(0), 0);
    }

    private static CoinMechanism inserted(CoinMechanism x, int times) {
        for (int i = 0; i < times; i++) {
            x.insert(0);
        }
        return x;
    }

    private static CoinMechanism soldOutAndNoChange() {
        CoinMechanism x = new CoinMechanism();
        x.addKind(50, 9);
        x.addProduct(35, 0);
        x.insert(0);
        return x;
    }

    private static void buyWithLessThanThePrice() {
        CHECK.at("13: 2 if the credit is less than the price");
        CHECK.unchanged("buy(0) with 2 of 3", 2, () -> inserted(ones(9, 3, 9), 2), x -> x.buy(0));
        CHECK.unchanged("buy(0) with nothing", 2, () -> ones(60, 1, 9), x -> x.buy(0));
        CHECK.unchanged("buy(0) with 11 of 2000", 2, () -> inserted(ones(60, 2000, 9), 11), x -> x.buy(0));
        CHECK.unchanged("buy(0) without kinds", 2, SalesEdgesTest::productAlone, x -> x.buy(0));
        CHECK.unchanged("buy(0) with 34 of 35", 2, SalesEdgesTest::oneLess, x -> x.buy(0));
    }

    private static CoinMechanism productAlone() {
        CoinMechanism x = new CoinMechanism();
        x.addProduct(1, 1);
        return x;
    }

    private static CoinMechanism oneLess() {
        CoinMechanism x = Machines.withTubes(new int[] {34, 1}, new int[] {60, 60});
        x.addProduct(35, 99);
        x.insert(0);
        return x;
    }

    private static void buyWithJustThePrice() {
        CHECK.at("13: 0 if it is sold; what the credit was more than the price is paid");
        CoinMechanism x = inserted(ones(0, 3, 99), 3);
        CHECK.due("buy(0) with 3 of 3", x.buy(0), 0);
        CHECK.dueCoins(x, 3, 0);
        CHECK.dueCoins(x, 1, 3);
        CHECK.dueProduct(x, 0, 3, 98);
        CHECK.dueEscrow(x);
        CHECK.dueAudit(x, 3, 0, 0, 0, 0, 0, 0, 3, 1, 1);
        CoinMechanism y = inserted(ones(0, 3, 99), 4);
        CHECK.due("buy(0) with 4 of 3", y.buy(0), 0);
        CHECK.dueCoins(y, 3, 1);
        CHECK.dueCoins(y, 1, 3);
        CHECK.dueAudit(y, 4, 0, 1, 0, 0, 0, 0, 3, 1, 0);
        CoinMechanism z = inserted(ones(0, 1, 1), 1);
        CHECK.due("buy(0) with 1 of 1", z.buy(0), 0);
        CHECK.dueAudit(z, 1, 0, 0, 0, 0, 0, 0, 1, 1, 1);
    }

    private static void buyWithoutChange() {
        CHECK.at("13: otherwise 3 if the change could not be paid");
        CHECK.unchanged("buy(0): 14 of 15", 3, () -> change15(5, 1, 4), x -> x.buy(0));
        CHECK.unchanged("buy(0): nothing of 15", 3, () -> change15(0, 0, 0), x -> x.buy(0));
        CHECK.unchanged("buy(0): 20, but not 15", 3, () -> change15(0, 2, 0), x -> x.buy(0));
        CHECK.unchanged("buy(0): two coins go back to the escrow", 3, SalesEdgesTest::twoCoins, x -> x.buy(0));
        CoinMechanism x = change15(5, 1, 5);
        CHECK.due("buy(0): just 15", x.buy(0), 0);
        CHECK.dueCoins(x, 3, 0, 1, 5);
    }

    private static void buyThatFailsLeavesTheSaleBefore() {
        CHECK.at("13: otherwise nothing changes");
        CHECK.unchanged("buy(1): sold out", 1, () -> after(x -> x.setProduct(1, 20, 0)), x -> x.buy(1));
        CHECK.unchanged("buy(0), the one sold before: sold out", 1, () -> after(x -> x.setProduct(0, 35, 0)), x -> x.buy(0));
        CHECK.unchanged("buy(1): 65 of 66", 2, () -> after(x -> x.setProduct(1, 66, 9)), x -> x.buy(1));
        CHECK.unchanged("buy(0): nothing of 35", 2, () -> after(x -> x.cancel()), x -> x.buy(0));
        CHECK.unchanged("buy(1): 44 is no multiple of 5", 3, () -> after(x -> x.setProduct(1, 21, 9)), x -> x.buy(1));
        CHECK.unchanged("buy(0): 64 is no multiple of 5", 3, () -> after(x -> x.setProduct(0, 1, 9)), x -> x.buy(0));
    }

    /** inUse(), of which a sale can be taken back, after one call more. */
    private static CoinMechanism after(MachineCheck.Ask ask) {
        CoinMechanism x = Machines.inUse();
        ask.of(x);
        return x;
    }

    /** 50 is in the escrow, and product 0 costs 35; tubes for 50, 10, 1 with so many coins. */
    private static CoinMechanism change15(int fifties, int tens, int ones) {
        CoinMechanism x = Machines.withTubes(new int[] {50, 10, 1}, new int[] {fifties, tens, ones});
        x.addProduct(35, 9);
        x.insert(0);
        return x;
    }

    private static CoinMechanism twoCoins() {
        CoinMechanism x = new CoinMechanism();
        x.addKind(10, 1);
        x.addKind(50, 1);
        x.addProduct(30, 9);
        x.insert(1);
        x.insert(0);
        x.insert(0);
        x.insert(1);
        return x;
    }

    private static void buyWithCreditAtTheLimit() {
        CHECK.at("13: the greatest price, the greatest credit, the greatest change");
        CoinMechanism x = limited(new CoinMechanism(), 2000);
        x.addKind(500, 60);
        x.addKind(499, 60);
        x.addProduct(2000, 1);
        x.addProduct(1, 1);
        CHECK.insertAll(x, 0, 0, 0, 0);
        CHECK.due("buy(1): 1999 cannot be paid", x.buy(1), 3);
        CHECK.due("buy(0): 2000 of 2000", x.buy(0), 0);
        CHECK.dueCoins(x, 1, 4, 0);
        CHECK.insertAll(x, 0, 0, 0);
        x.fill(1, 1);
        CHECK.due("insert(1): 1999", x.insert(1), 0);
        x.setProduct(0, 2000, 1);
        CHECK.due("buy(0): 1999 of 2000", x.buy(0), 2);
        x.cancel();
        CHECK.insertAll(x, 0, 0, 0, 0);
        CHECK.due("buy(1): 1999 as change", x.buy(1), 0);
        CHECK.dueCoins(x, 3, 3, 1);
        CHECK.dueCoins(x, 1, 5, 0);
        CHECK.due("audit(2)", x.audit(2), 1999L);
    }

    private static void buyDropsIntoTheLastPlace() {
        CHECK.at("Description: into the tube of its kind, if that has room, otherwise into the box");
        CoinMechanism x = new CoinMechanism();
        x.addKind(10, 3);
        x.addKind(20, 0);
        x.addKind(40, 1);
        x.addProduct(10, 9);
        x.fill(0, 2);
        CHECK.insertAll(x, 0);
        CHECK.due("buy(0): the last place", x.buy(0), 0);
        CHECK.dueCoins(x, 1, 3, 0, 0);
        CHECK.dueCoins(x, 2, 0, 0, 0);
        CHECK.insertAll(x, 0);
        CHECK.due("buy(0): a full tube", x.buy(0), 0);
        CHECK.dueCoins(x, 1, 3, 0, 0);
        CHECK.dueCoins(x, 2, 1, 0, 0);
        x.setProduct(0, 20, 9);
        CHECK.insertAll(x, 1);
        CHECK.due("buy(0): a tube for none", x.buy(0), 0);
        CHECK.dueCoins(x, 1, 3, 0, 0);
        CHECK.dueCoins(x, 2, 1, 1, 0);
        x.setProduct(0, 80, 9);
        CHECK.insertAll(x, 2, 2);
        CHECK.due("buy(0): one of two has room", x.buy(0), 0);
        CHECK.dueCoins(x, 1, 3, 0, 1);
        CHECK.dueCoins(x, 2, 1, 1, 1);
        x.take(0, 1);
        x.setProduct(0, 30, 9);
        CHECK.insertAll(x, 0, 0, 0);
        CHECK.due("buy(0): one of three has room", x.buy(0), 0);
        CHECK.dueCoins(x, 1, 3, 0, 1);
        CHECK.dueCoins(x, 2, 3, 1, 1);
    }

    private static void buyDropsAFullEscrow() {
        CHECK.at("13: the coins in the escrow are dropped, all 12");
        CoinMechanism x = Machines.full();
        for (int kind = 0; kind < 8; kind++) {
            x.take(kind, 2);
        }
        x.setProduct(0, 400, 1);
        CHECK.due("buy(0)", x.buy(0), 0);
        CHECK.dueCoins(x, 1, 59, 59, 59, 59, 59, 59, 59, 60);
        CHECK.dueCoins(x, 2, 0, 0, 0, 0, 0, 0, 0, 3);
        CHECK.dueEscrow(x);
        CHECK.due("credit()", x.credit(), 0);
        CoinMechanism y = notAccepting(Machines.full(), 0);
        y.setProduct(0, 400, 1);
        CHECK.due("buy(0), a kind not accepted since", y.buy(0), 0);
        CHECK.dueCoins(y, 2, 1, 1, 1, 1, 1, 1, 1, 5);
    }

    private static void buyPaysWithTheseCoins() {
        CHECK.at("13: so these coins can be among those that are paid");
        CoinMechanism x = new CoinMechanism();
        x.addKind(10, 1);
        x.addKind(20, 0);
        x.addProduct(10, 9);
        CHECK.insertAll(x, 0, 0);
        CHECK.due("buy(0): 10 from the tube, 10 in the box", x.buy(0), 0);
        CHECK.dueCoins(x, 1, 0, 0);
        CHECK.dueCoins(x, 2, 1, 0);
        CHECK.dueCoins(x, 3, 1, 0);
        CHECK.insertAll(x, 1);
        CHECK.due("buy(0): what is in the box does not pay", x.buy(0), 3);
        CHECK.due("cancel()", x.cancel(), 20);
        CHECK.insertAll(x, 0, 0, 0);
        CHECK.due("buy(0): 20, but only one comes into the tube", x.buy(0), 3);
        CHECK.dueCoins(x, 1, 0, 0);
        CHECK.dueCoins(x, 2, 1, 0);
        CHECK.dueCoins(x, 3, 1, 0);
        CHECK.dueEscrow(x, 0, 0, 0);
        CoinMechanism y = Machines.withTubes(new int[] {10, 30, 50}, new int[] {9, 0, 0});
        y.addProduct(50, 9);
        y.accept(0, false);
        CHECK.insertAll(y, 1, 2);
        CHECK.due("buy(0): the 30 put in is fewer than three of 10", y.buy(0), 0);
        CHECK.dueCoins(y, 3, 0, 1, 0);
        CHECK.dueCoins(y, 1, 9, 0, 1);
        CHECK.insertAll(y, 1, 1);
        CHECK.due("buy(0): a kind that is not accepted pays", y.buy(0), 0);
        CHECK.dueCoins(y, 3, 1, 0, 0);
        // The tube of 10 is full when 10 falls, although the change makes room in it then.
        CoinMechanism z = new CoinMechanism();
        z.addKind(10, 2);
        z.addKind(50, 9);
        z.addProduct(50, 9);
        z.fill(0, 2);
        CHECK.insertAll(z, 1, 0);
        CHECK.due("buy(0): dropped first, paid then", z.buy(0), 0);
        CHECK.dueCoins(z, 1, 1, 1);
        CHECK.dueCoins(z, 2, 1, 0);
        CHECK.dueCoins(z, 3, 1, 0);
    }

    // ---- promise 14

    private static void refundWhenNothingWasSold() {
        CHECK.at("14: refund throws if nothing was sold yet");
        CHECK.refused("refund()", STATE, Machines::fresh, x -> x.refund());
        CHECK.refused("refund()", STATE, Machines::full, x -> x.refund());
        CoinMechanism x = ones(60, 3, 1);
        CHECK.due("buy(0): not sold", x.buy(0), 2);
        CHECK.dueThrow("refund()", STATE, () -> x.refund());
        x.setProduct(0, 3, 0);
        CHECK.due("buy(0): not sold", x.buy(0), 1);
        CHECK.dueThrow("refund()", STATE, () -> x.refund());
        CoinMechanism y = change15(0, 0, 0);
        CHECK.due("buy(0): not sold", y.buy(0), 3);
        CHECK.dueThrow("refund()", STATE, () -> y.refund());
    }

    private static CoinMechanism takenBack() {
        CoinMechanism x = Machines.inUse();
        x.refund();
        return x;
    }

    private static void refundWhenTakenBack() {
        CHECK.at("14: or the latest sale is taken back");
        CHECK.refused("refund()", STATE, SalesEdgesTest::takenBack, x -> x.refund());
        CoinMechanism x = takenBack();
        CHECK.due("buy(0), a new sale", x.buy(0), 0);
        CHECK.due("refund() of the new sale: 5 of 35", x.refund(), false);
        x.fill(0, 4);
        x.fill(2, 60);
        CHECK.due("refund() of the new sale", x.refund(), true);
        CHECK.dueThrow("refund()", STATE, () -> x.refund());
        CHECK.due("buy(0): not sold", x.buy(0), 2);
        CHECK.dueThrow("refund() after a sale that failed", STATE, () -> x.refund());
        CHECK.due("cancel()", x.cancel(), 0);
        CHECK.dueThrow("refund() after a cancel", STATE, () -> x.refund());
    }

    private static void refundOfNoEarlierSale() {
        CHECK.at("14: a sale can be taken back once, and no earlier one behind it");
        CoinMechanism x = ones(60, 3, 9);
        x.addProduct(2, 9);
        bought(inserted(x, 3), 0);
        bought(inserted(x, 2), 1);
        bought(inserted(x, 2), 1);
        CHECK.due("refund()", x.refund(), true);
        CHECK.dueCoins(x, 3, 2);
        CHECK.dueProduct(x, 1, 2, 8);
        CHECK.dueProduct(x, 0, 3, 8);
        CHECK.dueThrow("refund()", STATE, () -> x.refund());
        CHECK.dueThrow("refund()", STATE, () -> x.refund());
        CHECK.dueProduct(x, 1, 2, 8);
        CHECK.dueProduct(x, 0, 3, 8);
        CHECK.dueAudit(x, 7, 0, 0, 2, 60, 0, 0, 7, 3, 3);
    }

    private static void refundAfterEachOtherCall() {
        CHECK.at("14: takes back the latest sale, whatever was called since");
        MachineCheck.Ask[] calls = {x -> x.addKind(1, 60), x -> x.fill(0, 1), x -> x.take(2, 1), x -> x.emptyBox(),
            x -> x.accept(0, false), x -> x.setLimit(0), x -> x.addProduct(9, 9), x -> x.setProduct(0, 1, 4),
            x -> x.setProduct(1, 1, 4), x -> x.insert(0), x -> x.cancel(), x -> x.buy(1) + x.buy(1) + x.cancel(),
            x -> x.fewest(2000), x -> x.part(65, 0), x -> x.below(1), x -> x.gaps(9), x -> x.lamp(), x -> x.digest()};
        for (int i = 0; i < calls.length; i++) {
            CoinMechanism x = Machines.inUse();
            x.setProduct(1, 2000, 1);
            calls[i].of(x);
            CHECK.due("refund() after call " + i, x.refund(), true);
            CHECK.dueCoins(x, 3, 3, 0, 1, 0);
            CHECK.due("product(0, true) after call " + i, x.product(0, true), 5);
            CHECK.dueThrow("refund() again after call " + i, STATE, () -> x.refund());
        }
    }

    /** A sale of 35, exact; then two of 10 and one of 5 are left in the tubes, credit 50. */
    private static CoinMechanism cannotBeTakenBack() {
        CoinMechanism x = Machines.small();
        x.insert(0);
        x.insert(0);
        x.insert(0);
        x.insert(2);
        x.buy(0);
        x.take(0, 1);
        x.insert(1);
        return x;
    }

    private static void refundThatCannotBePaid() {
        CHECK.at("14: whether that was done");
        CHECK.unchanged("refund(): 25 of 35", false, SalesEdgesTest::cannotBeTakenBack, x -> x.refund());
        CoinMechanism x = cannotBeTakenBack();
        CHECK.due("refund()", x.refund(), false);
        CHECK.due("refund()", x.refund(), false);
        x.fill(2, 1);
        CHECK.due("refund(): 30 of 35", x.refund(), false);
        x.fill(0, 1);
        CHECK.due("refund(): 35 without the second of 5", x.refund(), true);
        CHECK.dueCoins(x, 3, 3, 0, 1);
        CHECK.dueCoins(x, 1, 0, 0, 1);
        CHECK.dueProduct(x, 0, 35, 5);
        CHECK.dueAudit(x, 85, 0, 0, 35, 15, 10, 0, 35, 1, 1);
    }

    private static void refundOfThePriceThen() {
        CHECK.at("14: if the price for which it was sold can be paid");
        CoinMechanism x = bought(inserted(ones(9, 3, 9), 3), 0);
        x.setProduct(0, 2000, 9);
        CHECK.due("refund() of 3, now it costs 2000", x.refund(), true);
        CHECK.dueCoins(x, 3, 3);
        CHECK.dueAudit(x, 3, 0, 0, 3, 9, 0, 0, 3, 1, 1);
        CHECK.dueProduct(x, 0, 2000, 10);
        CoinMechanism y = bought(inserted(ones(0, 3, 9), 3), 0);
        y.take(0, 1);
        y.setProduct(0, 2, 9);
        CHECK.due("refund() of 3, now it costs 2", y.refund(), false);
        y.setProduct(0, 1, 9);
        y.fill(0, 1);
        CHECK.due("refund() of 3, now it costs 1", y.refund(), true);
        CHECK.dueCoins(y, 1, 0);
    }

    private static void refundFromTheTubesAlone() {
        CHECK.at("14: the price is paid, from the tubes");
        CoinMechanism x = new CoinMechanism();
        x.addKind(10, 0);
        x.addProduct(10, 9);
        bought(inserted(x, 1), 0);
        CHECK.insertAll(x, 0);
        CHECK.due("refund(): 10 in the box and 10 in the escrow", x.refund(), false);
        CHECK.dueCoins(x, 2, 1);
        CHECK.dueEscrow(x, 0);
        CoinMechanism y = Machines.inUse();
        y.accept(0, false);
        CHECK.due("refund() with a kind that is not accepted", y.refund(), true);
        CHECK.dueCoins(y, 3, 3, 0, 1, 0);
        CHECK.dueEscrow(y, 0, 2, 1);
        CHECK.due("exactShare(): the sale had paid coins", y.exactShare(), 0.0);
    }

    private static void refundToStock99() {
        CHECK.at("14: the stock of the product is one more (if it is less than 99)");
        int[][] stocks = {{0, 1}, {1, 2}, {97, 98}, {98, 99}, {99, 99}};
        for (int[] pair : stocks) {
            CoinMechanism x = bought(inserted(ones(9, 3, 50), 3), 0);
            x.addProduct(3, 50);
            x.setProduct(0, 3, pair[0]);
            CHECK.due("refund() to a stock of " + pair[0], x.refund(), true);
            CHECK.dueProduct(x, 0, 3, pair[1]);
            CHECK.dueProduct(x, 1, 3, 50);
            CHECK.due("audit(3)", x.audit(3), 3L);
        }
        CoinMechanism y = ones(9, 3, 99);
        bought(inserted(y, 3), 0);
        CHECK.due("refund()", y.refund(), true);
        CHECK.dueProduct(y, 0, 3, 99);
    }

    private static void refundOf2000() {
        CHECK.at("14: the greatest and the least price");
        CoinMechanism x = limited(new CoinMechanism(), 2000);
        x.addKind(500, 60);
        x.addProduct(2000, 1);
        bought(inserted(x, 4), 0);
        CHECK.due("refund() of 2000", x.refund(), true);
        CHECK.dueCoins(x, 1, 0);
        CHECK.dueCoins(x, 3, 4);
        CHECK.due("audit(3)", x.audit(3), 2000L);
        CoinMechanism y = bought(inserted(ones(0, 1, 1), 1), 0);
        CHECK.due("refund() of 1", y.refund(), true);
        CHECK.dueCoins(y, 1, 0);
        CHECK.due("audit(3)", y.audit(3), 1L);
    }

    // ---- promise 15

    private static void creditOfNothingAndOfAll() {
        CHECK.at("15: the sum of the values of the coins in the escrow");
        CHECK.unchanged("credit() without kinds", 0, Machines::fresh, x -> x.credit());
        CHECK.unchanged("credit() of an empty escrow", 0, Machines::small, x -> x.credit());
        CHECK.unchanged("credit() of 12 coins", 400, Machines::full, x -> x.credit());
        CHECK.unchanged("credit()", 65, Machines::inUse, x -> x.credit());
        CoinMechanism x = limited(ones(60, 1, 1), 2000);
        x.addKind(500, 0);
        for (int i = 1; i <= 4; i++) {
            CHECK.insertAll(x, 1);
            CHECK.due("credit()", x.credit(), 500 * i);
        }
        CHECK.due("insert(0) falls through", x.insert(0), 3);
        CHECK.due("credit()", x.credit(), 2000);
        x.cancel();
        CHECK.insertAll(x, 0);
        CHECK.due("credit()", x.credit(), 1);
    }

    // ---- promise 16

    private static void escrowOfNoSuchIndex() {
        CHECK.at("16: escrow throws if there is no such index");
        CHECK.refusedOutside("escrow(#)", INDEX, 0, -1, Machines::fresh, (x, i) -> x.escrow(i));
        CHECK.refusedOutside("escrow(#)", INDEX, 0, -1, Machines::small, (x, i) -> x.escrow(i));
        CHECK.refusedOutside("escrow(#)", INDEX, 0, 2, Machines::inUse, (x, i) -> x.escrow(i));
        CHECK.refusedOutside("escrow(#)", INDEX, 0, 11, Machines::full, (x, i) -> x.escrow(i));
        CoinMechanism x = Machines.full();
        x.cancel();
        CHECK.dueThrow("escrow(0) after a cancel", INDEX, () -> x.escrow(0));
        CoinMechanism y = bought(Machines.full(), 9);
        CHECK.dueThrow("escrow(0) after a sale", INDEX, () -> y.escrow(0));
        CHECK.insertAll(y, 5);
        CHECK.dueEscrow(y, 5);
    }

    private static void escrowInOrder() {
        CHECK.at("Description: in the order in which they were put in");
        CHECK.dueEscrow(Machines.full(), 0, 1, 2, 3, 4, 5, 6, 7, 7, 7, 7, 7);
        CHECK.unchanged("escrow(11), the last", 7, Machines::full, x -> x.escrow(11));
        CHECK.unchanged("escrow(0), the first", 0, Machines::full, x -> x.escrow(0));
        CoinMechanism x = Machines.full();
        x.cancel();
        CHECK.insertAll(x, 7, 0, 7, 6, 1, 0, 0, 5, 2, 3, 4, 1);
        CHECK.dueEscrow(x, 7, 0, 7, 6, 1, 0, 0, 5, 2, 3, 4, 1);
    }

    // ---- promise 17

    private static void coinsOfNoSuchKind() {
        CHECK.at("17: coins throws if there is no such kind");
        for (int what = 0; what <= 3; what++) {
            int w = what;
            String call = "coins(#, " + w + ")";
            CHECK.refusedOutside(call, INDEX, 0, -1, Machines::fresh, (x, k) -> x.coins(k, w));
            CHECK.refusedOutside(call, INDEX, 0, 3, Machines::inUse, (x, k) -> x.coins(k, w));
            CHECK.refusedOutside(call, INDEX, 0, 7, Machines::full, (x, k) -> x.coins(k, w));
        }
    }

    private static void coinsWhat0To3() {
        CHECK.at("17: or what is not 0 to 3");
        CHECK.refusedOutside("coins(0, #)", INDEX, 0, 3, Machines::inUse, (x, w) -> x.coins(0, w));
        CHECK.refusedOutside("coins(7, #)", INDEX, 0, 3, Machines::full, (x, w) -> x.coins(7, w));
        CHECK.unchanged("coins(1, 0)", 50, Machines::inUse, x -> x.coins(1, 0));
        CHECK.unchanged("coins(2, 1)", 3, Machines::inUse, x -> x.coins(2, 1));
        CHECK.unchanged("coins(3, 2)", 1, Machines::inUse, x -> x.coins(3, 2));
        CHECK.unchanged("coins(2, 3)", 17, Machines::inUse, x -> x.coins(2, 3));
        CHECK.unchanged("coins(7, 1)", 60, Machines::full, x -> x.coins(7, 1));
    }

    private static void coinsPaidLast() {
        CHECK.at("17: 3 how many of it were paid when something was paid last, for a sale (perhaps nothing)"
            + " or when one was taken back; 0 if nothing was paid yet");
        CHECK.dueCoins(Machines.full(), 3, 0, 0, 0, 0, 0, 0, 0, 0);
        CoinMechanism x = ones(60, 3, 9);
        CHECK.dueCoins(x, 3, 0);
        bought(inserted(x, 5), 0);
        CHECK.dueCoins(x, 3, 2);
        CHECK.due("buy(0): not sold", x.buy(0), 2);
        x.fewest(60);
        x.part(60, 0);
        x.take(0, 1);
        CHECK.insertAll(x, 0);
        x.cancel();
        CHECK.dueCoins(x, 3, 2);
        CHECK.due("refund()", x.refund(), true);
        CHECK.dueCoins(x, 3, 3);
        CHECK.dueThrow("refund()", STATE, () -> x.refund());
        CHECK.dueCoins(x, 3, 3);
        bought(inserted(x, 3), 0);
        CHECK.dueCoins(x, 3, 0);
        CoinMechanism y = cannotBeTakenBack();
        y.fill(2, 60);
        y.addProduct(40, 1);
        bought(y, 1);
        CHECK.dueCoins(y, 3, 1, 0, 0);
        y.take(0, 4);
        y.take(1, 1);
        y.take(2, 60);
        CHECK.due("refund()", y.refund(), false);
        CHECK.dueCoins(y, 3, 1, 0, 0);
    }
}
