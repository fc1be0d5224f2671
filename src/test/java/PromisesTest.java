/** For each promise of the document: ordinary inputs, edges and wrong inputs. */
public final class PromisesTest {
    private static final Class<IllegalArgumentException> ARGUMENT = MachineCheck.ARGUMENT;
    private static final Class<IllegalStateException> STATE = MachineCheck.STATE;
    private static final Class<IndexOutOfBoundsException> INDEX = MachineCheck.INDEX;
    private static final MachineCheck CHECK = new MachineCheck();

    public static void main(String[] args) {
        CHECK.run(
            PromisesTest::aNewObject,
            PromisesTest::addKind,
            PromisesTest::addKindInWrongState,
            PromisesTest::fill,
            PromisesTest::take,
            PromisesTest::emptyBox,
            PromisesTest::accept,
            PromisesTest::setLimit,
            PromisesTest::addProduct,
            PromisesTest::setProduct,
            PromisesTest::product,
            PromisesTest::insert,
            PromisesTest::insertAtTheEscrowsEnd,
            PromisesTest::cancel,
            PromisesTest::buy,
            PromisesTest::buyWhenNothingChanges,
            PromisesTest::buyDropsIntoTubesAndBox,
            PromisesTest::buyTakesTheBestOfSeveralWays,
            PromisesTest::refund,
            PromisesTest::refundThatCannotBePaid,
            PromisesTest::refundOfTheLatestSaleAlone,
            PromisesTest::credit,
            PromisesTest::escrow,
            PromisesTest::coins,
            PromisesTest::fewest,
            PromisesTest::fewestIsNotGreedy,
            PromisesTest::fewestInTheLargest,
            PromisesTest::part,
            PromisesTest::below,
            PromisesTest::gaps,
            PromisesTest::unit,
            PromisesTest::lamp,
            PromisesTest::lampForEachProductAndKind,
            PromisesTest::audit,
            PromisesTest::exactShare,
            PromisesTest::digest,
            PromisesTest::throwingChangesNothing,
            PromisesTest::aFullMachine);
        CHECK.end();
    }

    // ---- promise 1

    private static void aNewObject() {
        CHECK.at("1 a new object");
        CoinMechanism x = new CoinMechanism();
        CHECK.dueThrow("coins(0, 0)", INDEX, () -> x.coins(0, 0));
        CHECK.dueThrow("product(0, false)", INDEX, () -> x.product(0, false));
        CHECK.dueThrow("escrow(0)", INDEX, () -> x.escrow(0));
        CHECK.dueThrow("refund()", STATE, () -> x.refund());
        CHECK.due("credit()", x.credit(), 0);
        CHECK.due("cancel()", x.cancel(), 0);
        CHECK.due("emptyBox()", x.emptyBox(), 0);
        CHECK.due("fewest(0)", x.fewest(0), 0);
        CHECK.due("fewest(1)", x.fewest(1), -1);
        CHECK.dueAudit(x);
        CHECK.due("setLimit(0)", x.setLimit(0), 1000);
    }

    // ---- promise 2

    private static void addKind() {
        CHECK.at("2 addKind");
        CoinMechanism x = new CoinMechanism();
        CHECK.dueThrow("addKind(0, 1)", ARGUMENT, () -> x.addKind(0, 1));
        CHECK.dueThrow("addKind(-1, 1)", ARGUMENT, () -> x.addKind(-1, 1));
        CHECK.dueThrow("addKind(501, 1)", ARGUMENT, () -> x.addKind(501, 1));
        CHECK.dueThrow("addKind(MIN, 1)", ARGUMENT, () -> x.addKind(Integer.MIN_VALUE, 1));
        CHECK.dueThrow("addKind(1, -1)", ARGUMENT, () -> x.addKind(1, -1));
        CHECK.dueThrow("addKind(1, 61)", ARGUMENT, () -> x.addKind(1, 61));
        CHECK.due("addKind(1, 0)", x.addKind(1, 0), 0);
        CHECK.due("addKind(500, 60)", x.addKind(500, 60), 1);
        CHECK.due("addKind(7, 3)", x.addKind(7, 3), 2);
        CHECK.dueCoins(x, 0, 1, 500, 7);
        CHECK.dueCoins(x, 1, 0, 0, 0);
        CHECK.due("fill(0, 5): capacity 0", x.fill(0, 5), 5);
        CHECK.due("fill(1, 60): capacity 60", x.fill(1, 60), 0);
        CHECK.due("fill(2, 5): capacity 3", x.fill(2, 5), 2);
        CHECK.due("accept(2, false): accepted at first", x.accept(2, false), true);
    }

    private static void addKindInWrongState() {
        CHECK.at("2 addKind, states");
        CoinMechanism x = new CoinMechanism();
        for (int i = 0; i < 7; i++) {
            CHECK.due("addKind", x.addKind(10 + i, i), i);
        }
        CHECK.dueThrow("addKind(10, 5)", STATE, () -> x.addKind(10, 5));
        CHECK.dueThrow("addKind(16, 5)", STATE, () -> x.addKind(16, 5));
        CHECK.dueThrow("addKind(10, 61): the first named", ARGUMENT, () -> x.addKind(10, 61));
        CHECK.due("addKind(17, 1)", x.addKind(17, 1), 7);
        CHECK.dueThrow("addKind(18, 1)", STATE, () -> x.addKind(18, 1));
        CHECK.dueThrow("addKind(501, 1): the first named", ARGUMENT, () -> x.addKind(501, 1));
        CHECK.dueThrow("coins(8, 0)", INDEX, () -> x.coins(8, 0));
    }

    // ---- promises 3 to 5

    private static void fill() {
        CHECK.at("3 fill");
        CoinMechanism x = Machines.small();
        CHECK.due("fill(0, 3)", x.fill(0, 3), 0);
        CHECK.dueCoins(x, 1, 3, 0, 0);
        CHECK.due("fill(0, 3)", x.fill(0, 3), 2);
        CHECK.dueCoins(x, 1, 4, 0, 0);
        CHECK.due("fill(0, 1)", x.fill(0, 1), 1);
        CHECK.due("fill(0, 0)", x.fill(0, 0), 0);
        CHECK.due("fill(2, 60)", x.fill(2, 60), 0);
        CHECK.dueCoins(x, 1, 4, 0, 60);
        CHECK.dueCoins(x, 2, 0, 0, 0);
        CHECK.due("audit(4)", x.audit(4), 340L);
        CHECK.dueThrow("fill(0, -1)", ARGUMENT, () -> x.fill(0, -1));
        CHECK.dueThrow("fill(0, 61)", ARGUMENT, () -> x.fill(0, 61));
        CHECK.dueThrow("fill(3, 1)", INDEX, () -> x.fill(3, 1));
        CHECK.dueThrow("fill(-1, 1)", INDEX, () -> x.fill(-1, 1));
        CHECK.dueThrow("fill(3, 61): the first named", INDEX, () -> x.fill(3, 61));
    }

    private static void take() {
        CHECK.at("4 take");
        CoinMechanism x = Machines.small();
        x.fill(2, 50);
        CHECK.due("take(2, 8)", x.take(2, 8), 8);
        CHECK.dueCoins(x, 1, 0, 0, 42);
        CHECK.due("take(2, 0)", x.take(2, 0), 0);
        CHECK.due("take(2, 60)", x.take(2, 60), 42);
        CHECK.dueCoins(x, 1, 0, 0, 0);
        CHECK.due("take(2, 1)", x.take(2, 1), 0);
        CHECK.due("audit(5)", x.audit(5), 250L);
        CHECK.dueThrow("take(0, -1)", ARGUMENT, () -> x.take(0, -1));
        CHECK.dueThrow("take(0, 61)", ARGUMENT, () -> x.take(0, 61));
        CHECK.dueThrow("take(3, 1)", INDEX, () -> x.take(3, 1));
        CHECK.dueThrow("take(-1, 1)", INDEX, () -> x.take(-1, 1));
        CHECK.dueThrow("take(3, 61): the first named", INDEX, () -> x.take(3, 61));
    }

    private static void emptyBox() {
        CHECK.at("5 emptyBox");
        CoinMechanism x = Machines.small();
        x.setProduct(0, 120, 5);
        x.fill(0, 3);
        CHECK.insertAll(x, 0, 0, 1, 1);
        CHECK.due("buy(0)", x.buy(0), 0);
        CHECK.dueCoins(x, 2, 1, 1, 0);
        CHECK.due("emptyBox()", x.emptyBox(), 60);
        CHECK.dueCoins(x, 2, 0, 0, 0);
        CHECK.dueCoins(x, 1, 4, 1, 0);
        CHECK.due("emptyBox() again", x.emptyBox(), 0);
        CHECK.due("audit(6)", x.audit(6), 60L);
    }

    // ---- promises 6 and 7

    private static void accept() {
        CHECK.at("6 accept");
        CoinMechanism x = Machines.small();
        CHECK.due("accept(1, false)", x.accept(1, false), true);
        CHECK.due("accept(1, false)", x.accept(1, false), false);
        CHECK.due("insert(1)", x.insert(1), 1);
        CHECK.due("insert(0)", x.insert(0), 0);
        CHECK.due("accept(1, true)", x.accept(1, true), false);
        CHECK.due("accept(1, true)", x.accept(1, true), true);
        CHECK.due("insert(1)", x.insert(1), 0);
        CHECK.dueThrow("accept(3, true)", INDEX, () -> x.accept(3, true));
        CHECK.dueThrow("accept(-1, true)", INDEX, () -> x.accept(-1, true));
    }

    private static void setLimit() {
        CHECK.at("7 setLimit");
        CoinMechanism x = Machines.small();
        CHECK.due("setLimit(0)", x.setLimit(0), 1000);
        CHECK.due("insert(2)", x.insert(2), 3);
        CHECK.due("setLimit(2000)", x.setLimit(2000), 0);
        CHECK.dueThrow("setLimit(2001)", ARGUMENT, () -> x.setLimit(2001));
        CHECK.dueThrow("setLimit(-1)", ARGUMENT, () -> x.setLimit(-1));
        CHECK.due("setLimit(55)", x.setLimit(55), 2000);
        CHECK.insertAll(x, 1, 2);
        CHECK.due("setLimit(10), below the credit", x.setLimit(10), 55);
        CHECK.due("credit()", x.credit(), 55);
        CHECK.due("insert(2)", x.insert(2), 3);
    }

    // ---- promises 8 to 10

    private static void addProduct() {
        CHECK.at("8 addProduct");
        CoinMechanism x = new CoinMechanism();
        CHECK.dueThrow("addProduct(0, 1)", ARGUMENT, () -> x.addProduct(0, 1));
        CHECK.dueThrow("addProduct(2001, 1)", ARGUMENT, () -> x.addProduct(2001, 1));
        CHECK.dueThrow("addProduct(1, -1)", ARGUMENT, () -> x.addProduct(1, -1));
        CHECK.dueThrow("addProduct(1, 100)", ARGUMENT, () -> x.addProduct(1, 100));
        CHECK.due("addProduct(1, 0)", x.addProduct(1, 0), 0);
        CHECK.due("addProduct(2000, 99)", x.addProduct(2000, 99), 1);
        for (int i = 2; i < 10; i++) {
            CHECK.due("addProduct(1, 0)", x.addProduct(1, 0), i);
        }
        CHECK.dueThrow("addProduct(1, 0)", STATE, () -> x.addProduct(1, 0));
        CHECK.dueThrow("addProduct(0, 0): the first named", ARGUMENT, () -> x.addProduct(0, 0));
        CHECK.due("product(1, false)", x.product(1, false), 2000);
        CHECK.due("product(1, true)", x.product(1, true), 99);
        CHECK.dueThrow("product(10, true)", INDEX, () -> x.product(10, true));
    }

    private static void setProduct() {
        CHECK.at("9 setProduct");
        CoinMechanism x = Machines.small();
        CHECK.due("setProduct(0, 2000, 0)", x.setProduct(0, 2000, 0), 35);
        CHECK.due("setProduct(0, 1, 99)", x.setProduct(0, 1, 99), 2000);
        CHECK.due("product(0, false)", x.product(0, false), 1);
        CHECK.due("product(0, true)", x.product(0, true), 99);
        CHECK.dueThrow("setProduct(0, 0, 1)", ARGUMENT, () -> x.setProduct(0, 0, 1));
        CHECK.dueThrow("setProduct(0, 2001, 1)", ARGUMENT, () -> x.setProduct(0, 2001, 1));
        CHECK.dueThrow("setProduct(0, 1, -1)", ARGUMENT, () -> x.setProduct(0, 1, -1));
        CHECK.dueThrow("setProduct(0, 1, 100)", ARGUMENT, () -> x.setProduct(0, 1, 100));
        CHECK.dueThrow("setProduct(1, 1, 1)", INDEX, () -> x.setProduct(1, 1, 1));
        CHECK.dueThrow("setProduct(-1, 1, 1)", INDEX, () -> x.setProduct(-1, 1, 1));
        CHECK.dueThrow("setProduct(1, 0, 1): the first named", INDEX, () -> x.setProduct(1, 0, 1));
    }

    private static void product() {
        CHECK.at("10 product");
        CoinMechanism x = Machines.small();
        x.addProduct(90, 7);
        CHECK.due("product(0, false)", x.product(0, false), 35);
        CHECK.due("product(0, true)", x.product(0, true), 5);
        CHECK.due("product(1, false)", x.product(1, false), 90);
        CHECK.due("product(1, true)", x.product(1, true), 7);
        CHECK.dueThrow("product(2, false)", INDEX, () -> x.product(2, false));
        CHECK.dueThrow("product(-1, true)", INDEX, () -> x.product(-1, true));
    }

    // ---- promises 11 and 12

    private static void insert() {
        CHECK.at("11 insert");
        CoinMechanism x = Machines.small();
        x.setLimit(60);
        CHECK.insertAll(x, 1, 0);
        CHECK.due("credit() at the limit", x.credit(), 60);
        CHECK.due("insert(2) above the limit", x.insert(2), 3);
        x.accept(2, false);
        CHECK.due("insert(2): not accepted is named first", x.insert(2), 1);
        CHECK.due("credit()", x.credit(), 60);
        CHECK.due("audit(0)", x.audit(0), 60L);
        CHECK.dueCoins(x, 1, 0, 0, 0);
        CHECK.dueThrow("insert(3)", INDEX, () -> x.insert(3));
        CHECK.dueThrow("insert(-1)", INDEX, () -> x.insert(-1));
    }

    private static void insertAtTheEscrowsEnd() {
        CHECK.at("11 insert, 12 coins");
        CoinMechanism x = Machines.small();
        for (int i = 0; i < 12; i++) {
            CHECK.due("insert", x.insert(i % 3), 0);
        }
        CHECK.due("insert(0), the 13th", x.insert(0), 2);
        x.setLimit(0);
        CHECK.due("insert(0): 12 coins are named before the limit", x.insert(0), 2);
        x.accept(0, false);
        CHECK.due("insert(0): not accepted is named first", x.insert(0), 1);
        CHECK.due("credit()", x.credit(), 260);
        CHECK.due("escrow(11)", x.escrow(11), 2);
        x.cancel();
        x.setLimit(1000);
        CHECK.due("insert(1)", x.insert(1), 0);
    }

    private static void cancel() {
        CHECK.at("12 cancel");
        CoinMechanism x = Machines.small();
        CHECK.insertAll(x, 0, 1, 2, 2);
        CHECK.due("cancel()", x.cancel(), 70);
        CHECK.due("credit()", x.credit(), 0);
        CHECK.dueThrow("escrow(0)", INDEX, () -> x.escrow(0));
        CHECK.due("cancel()", x.cancel(), 0);
        CHECK.insertAll(x, 1);
        CHECK.due("cancel()", x.cancel(), 50);
        CHECK.dueCoins(x, 1, 0, 0, 0);
        CHECK.dueCoins(x, 2, 0, 0, 0);
        CHECK.dueAudit(x, 120, 120);
    }

    // ---- promise 13

    private static void buy() {
        CHECK.at("13 buy");
        CoinMechanism x = Machines.small();
        x.fill(0, 3);
        x.fill(2, 3);
        CHECK.insertAll(x, 1);
        CHECK.due("buy(0)", x.buy(0), 0);
        CHECK.dueCoins(x, 1, 2, 1, 2);
        CHECK.dueCoins(x, 3, 1, 0, 1);
        CHECK.due("credit()", x.credit(), 0);
        CHECK.dueThrow("escrow(0)", INDEX, () -> x.escrow(0));
        CHECK.due("product(0, true)", x.product(0, true), 4);
        CHECK.dueAudit(x, 50, 0, 15, 0, 45, 0, 0, 35, 1, 0);
        CHECK.insertAll(x, 0, 0, 0, 2);
        CHECK.due("buy(0) with exact money", x.buy(0), 0);
        CHECK.dueCoins(x, 3, 0, 0, 0);
        CHECK.dueCoins(x, 1, 4, 1, 3);
        CHECK.dueCoins(x, 2, 1, 0, 0);
        CHECK.dueAudit(x, 85, 0, 15, 0, 45, 0, 0, 70, 2, 1);
        CHECK.dueThrow("buy(1)", INDEX, () -> x.buy(1));
        CHECK.dueThrow("buy(-1)", INDEX, () -> x.buy(-1));
    }

    private static void buyWhenNothingChanges() {
        CHECK.at("13 buy, not sold");
        CoinMechanism x = Machines.small();
        CHECK.due("buy(0) without money", x.buy(0), 2);
        x.setProduct(0, 35, 0);
        CHECK.due("buy(0): the stock is named first", x.buy(0), 1);
        x.setProduct(0, 35, 1);
        CHECK.insertAll(x, 0, 0, 0);
        CHECK.due("buy(0) with 30", x.buy(0), 2);
        x.cancel();
        x.fill(0, 3);
        CHECK.insertAll(x, 0, 1);
        long before = x.digest();
        CHECK.due("buy(0): 25 cannot be paid", x.buy(0), 3);
        CHECK.due("digest() after", x.digest(), before);
        CHECK.dueCoins(x, 1, 3, 0, 0);
        CHECK.dueCoins(x, 2, 0, 0, 0);
        CHECK.due("escrow(0)", x.escrow(0), 0);
        CHECK.due("escrow(1)", x.escrow(1), 1);
        CHECK.dueThrow("refund()", STATE, () -> x.refund());
        x.setProduct(0, 40, 1);
        CHECK.due("buy(0)", x.buy(0), 0);
        CHECK.due("buy(0): sold out", x.buy(0), 1);
    }

    private static void buyDropsIntoTubesAndBox() {
        CHECK.at("13 buy, where coins fall");
        CoinMechanism x = new CoinMechanism();
        x.addKind(10, 2);
        x.addKind(20, 0);
        x.addProduct(10, 9);
        CHECK.insertAll(x, 0, 0, 0, 0);
        CHECK.due("buy(0): 30 of 20 in the tube", x.buy(0), 3);
        CHECK.due("cancel()", x.cancel(), 40);
        CHECK.insertAll(x, 0, 0, 0);
        CHECK.due("buy(0): the inserted coins pay", x.buy(0), 0);
        CHECK.dueCoins(x, 1, 0, 0);
        CHECK.dueCoins(x, 2, 1, 0);
        CHECK.dueCoins(x, 3, 2, 0);
        CHECK.insertAll(x, 1);
        CHECK.due("buy(0): the tube is empty", x.buy(0), 3);
        CHECK.insertAll(x, 0);
        x.setProduct(0, 20, 9);
        CHECK.due("buy(0)", x.buy(0), 0);
        CHECK.dueCoins(x, 1, 0, 0);
        CHECK.dueCoins(x, 2, 1, 1);
        CHECK.dueCoins(x, 3, 1, 0);
    }

    private static void buyTakesTheBestOfSeveralWays() {
        CHECK.at("13 buy, the way it pays");
        CoinMechanism x = Machines.withTubes(new int[] {20, 50, 30, 100}, new int[] {3, 1, 2, 0});
        x.addProduct(40, 9);
        CHECK.insertAll(x, 3);
        CHECK.due("buy(0): 60", x.buy(0), 0);
        CHECK.dueCoins(x, 3, 0, 0, 2, 0);
        CHECK.dueCoins(x, 1, 3, 1, 0, 1);
        x.setProduct(0, 1, 9);
        CHECK.due("setLimit", x.setLimit(2000), 1000);
        CoinMechanism y = Machines.withTubes(new int[] {1, 500}, new int[] {60, 0});
        y.addProduct(1, 1);
        y.setLimit(2000);
        CHECK.insertAll(y, 1, 1, 1, 1);
        CHECK.due("buy(0): 1999 of 4 coins of 500 and 60 of 1", y.buy(0), 3);
        y.fill(1, 60);
        CHECK.due("buy(0)", y.buy(0), 3);
        y.setProduct(0, 440, 1);
        CHECK.due("buy(0)", y.buy(0), 0);
        CHECK.dueCoins(y, 3, 60, 3);
    }

    // ---- promise 14

    private static void refund() {
        CHECK.at("14 refund");
        CoinMechanism x = Machines.small();
        x.setProduct(0, 35, 2);
        CHECK.insertAll(x, 0, 0, 0, 2);
        x.buy(0);
        x.setProduct(0, 50, 7);
        CHECK.due("refund() of 35", x.refund(), true);
        CHECK.dueCoins(x, 1, 0, 0, 0);
        CHECK.dueCoins(x, 3, 3, 0, 1);
        CHECK.due("product(0, true)", x.product(0, true), 8);
        CHECK.due("product(0, false)", x.product(0, false), 50);
        CHECK.dueAudit(x, 35, 0, 0, 35, 0, 0, 0, 35, 1, 1);
        CHECK.dueThrow("refund() again", STATE, () -> x.refund());
        x.setProduct(0, 10, 99);
        CHECK.insertAll(x, 0);
        CHECK.due("buy(0)", x.buy(0), 0);
        x.setProduct(0, 10, 99);
        CHECK.due("refund()", x.refund(), true);
        CHECK.due("product(0, true)", x.product(0, true), 99);
    }

    private static void refundThatCannotBePaid() {
        CHECK.at("14 refund, not paid");
        CoinMechanism x = Machines.small();
        x.fill(0, 2);
        CHECK.insertAll(x, 1, 2);
        CHECK.due("buy(0): 20 back", x.buy(0), 0);
        x.take(2, 1);
        long before = x.digest();
        CHECK.due("refund()", x.refund(), false);
        CHECK.due("digest() after", x.digest(), before);
        CHECK.dueCoins(x, 3, 2, 0, 0);
        CHECK.insertAll(x, 0, 0, 0, 2);
        CHECK.due("refund(): the escrow does not pay", x.refund(), false);
        x.fill(2, 9);
        CHECK.due("refund()", x.refund(), true);
        CHECK.dueCoins(x, 3, 0, 0, 7);
        CHECK.due("credit()", x.credit(), 35);
        CHECK.dueThrow("refund() again", STATE, () -> x.refund());
    }

    private static void refundOfTheLatestSaleAlone() {
        CHECK.at("14 refund, the latest sale");
        CoinMechanism x = Machines.small();
        x.addProduct(10, 3);
        CHECK.insertAll(x, 0, 0, 0, 2);
        x.buy(0);
        CHECK.insertAll(x, 0);
        x.buy(1);
        CHECK.due("refund() of product 1", x.refund(), true);
        CHECK.due("product(1, true)", x.product(1, true), 3);
        CHECK.due("product(0, true)", x.product(0, true), 4);
        CHECK.dueThrow("refund(): none behind it", STATE, () -> x.refund());
        CHECK.due("buy(0): not sold", x.buy(0), 2);
        CHECK.dueThrow("refund(): still none", STATE, () -> x.refund());
        CHECK.insertAll(x, 0);
        x.buy(1);
        CHECK.due("refund() of the new sale", x.refund(), true);
        CHECK.due("audit(3)", x.audit(3), 20L);
    }

    // ---- promises 15 to 17

    private static void credit() {
        CHECK.at("15 credit");
        CoinMechanism x = Machines.small();
        CHECK.insertAll(x, 0, 2, 1, 0);
        CHECK.due("credit()", x.credit(), 75);
        x.accept(0, false);
        x.fill(1, 1);
        CHECK.due("credit()", x.credit(), 75);
        x.cancel();
        CHECK.due("credit()", x.credit(), 0);
    }

    private static void escrow() {
        CHECK.at("16 escrow");
        CoinMechanism x = Machines.small();
        CHECK.insertAll(x, 2, 0, 1, 2);
        CHECK.due("escrow(0)", x.escrow(0), 2);
        CHECK.due("escrow(1)", x.escrow(1), 0);
        CHECK.due("escrow(2)", x.escrow(2), 1);
        CHECK.due("escrow(3)", x.escrow(3), 2);
        CHECK.dueThrow("escrow(4)", INDEX, () -> x.escrow(4));
        CHECK.dueThrow("escrow(12)", INDEX, () -> x.escrow(12));
        CHECK.dueThrow("escrow(-1)", INDEX, () -> x.escrow(-1));
    }

    private static void coins() {
        CHECK.at("17 coins");
        CoinMechanism x = Machines.small();
        x.setProduct(0, 110, 9);
        x.fill(0, 1);
        x.fill(2, 3);
        CHECK.insertAll(x, 1, 1, 0, 2);
        CHECK.due("buy(0)", x.buy(0), 0);
        int[][] want = {{10, 2, 0, 0}, {50, 1, 1, 0}, {5, 3, 0, 1}};
        for (int what = 0; what < 4; what++) {
            CHECK.dueCoins(x, what, want[0][what], want[1][what], want[2][what]);
        }
        x.addKind(1, 5);
        CHECK.dueCoins(x, 3, 0, 0, 1, 0);
        CHECK.dueThrow("coins(0, 4)", INDEX, () -> x.coins(0, 4));
        CHECK.dueThrow("coins(0, -1)", INDEX, () -> x.coins(0, -1));
        CHECK.dueThrow("coins(4, 0)", INDEX, () -> x.coins(4, 0));
        CHECK.dueThrow("coins(-1, 0)", INDEX, () -> x.coins(-1, 0));
    }

    // ---- promises 18 to 21

    private static void fewest() {
        CHECK.at("18 fewest");
        CoinMechanism x = Machines.small();
        CHECK.due("fewest(0)", x.fewest(0), 0);
        CHECK.due("fewest(5)", x.fewest(5), -1);
        x.fill(0, 4);
        x.fill(1, 1);
        x.fill(2, 10);
        CHECK.due("fewest(0)", x.fewest(0), 0);
        CHECK.due("fewest(50)", x.fewest(50), 1);
        CHECK.due("fewest(45)", x.fewest(45), 5);
        CHECK.due("fewest(100)", x.fewest(100), 7);
        CHECK.due("fewest(140)", x.fewest(140), 15);
        CHECK.due("fewest(145)", x.fewest(145), -1);
        CHECK.due("fewest(7)", x.fewest(7), -1);
        x.accept(1, false);
        CHECK.insertAll(x, 0);
        CHECK.due("fewest(50): not accepted, but there", x.fewest(50), 1);
        CHECK.due("fewest(145)", x.fewest(145), -1);
        CHECK.dueThrow("fewest(-1)", ARGUMENT, () -> x.fewest(-1));
        CHECK.dueThrow("fewest(2001)", ARGUMENT, () -> x.fewest(2001));
    }

    private static void fewestIsNotGreedy() {
        CHECK.at("18 fewest, not greedy");
        CoinMechanism x = Machines.withTubes(new int[] {25, 10, 1}, new int[] {2, 4, 9});
        CHECK.due("fewest(40)", x.fewest(40), 4);
        CHECK.due("fewest(30)", x.fewest(30), 3);
        CoinMechanism y = Machines.withTubes(new int[] {50, 20}, new int[] {1, 4});
        CHECK.due("fewest(80)", y.fewest(80), 4);
        CHECK.due("fewest(110)", y.fewest(110), 4);
    }

    private static void fewestInTheLargest() {
        CHECK.at("18 fewest, full tubes");
        CoinMechanism x = Machines.withTubes(new int[] {1, 2, 3, 4, 5, 6, 7, 8},
            new int[] {60, 60, 60, 60, 60, 60, 60, 60});
        // All have 2160 together; the most coins that are 160 stay: 60 of 1 and 50 of 2.
        CHECK.dueParts(x, 2000, 0, 10, 60, 60, 60, 60, 60, 60);
        CHECK.dueParts(x, 1999, 1, 9, 60, 60, 60, 60, 60, 60);
        CoinMechanism y = Machines.withTubes(new int[] {3}, new int[] {60});
        for (int many = 0; many <= 60; many++) {
            CHECK.due("fewest(" + 3 * many + ")", y.fewest(3 * many), many);
            CHECK.due("part(" + 3 * many + ", 0)", y.part(3 * many, 0), many);
        }
        CHECK.due("fewest(183)", y.fewest(183), -1);
        CHECK.due("part(183, 0)", y.part(183, 0), -1);
    }

    private static void part() {
        CHECK.at("19 part");
        CoinMechanism x = Machines.withTubes(new int[] {20, 50, 30}, new int[] {3, 1, 2});
        CHECK.dueParts(x, 0, 0, 0, 0);
        CHECK.dueParts(x, 60, 0, 0, 2);
        CHECK.dueParts(x, 70, 1, 1, 0);
        CHECK.dueParts(x, 110, 0, 1, 2);
        CHECK.dueParts(x, 120, 2, 1, 1);
        CHECK.due("part(10, 0)", x.part(10, 0), -1);
        CHECK.due("part(10, 2)", x.part(10, 2), -1);
        // 100 = 60 + 40 = 50 + 50 and 90 + 10: the greatest value decides.
        CHECK.dueParts(Machines.withTubes(new int[] {50, 40, 60, 90, 10}, new int[] {9, 9, 9, 9, 9}), 100, 0, 0, 0, 1, 1);
        // 12 = 5 + 4 + 3 = 5 + 5 + 2 = 4 + 4 + 4: more of 5.
        CHECK.dueParts(Machines.withTubes(new int[] {2, 3, 4, 5}, new int[] {9, 9, 9, 9}), 12, 1, 0, 0, 2);
        // 14 = 9 + 3 + 2 = 9 + 4 + 1: the same number of 9, so more of 4.
        CHECK.dueParts(Machines.withTubes(new int[] {1, 2, 3, 4, 9}, new int[] {9, 9, 9, 9, 9}), 14, 1, 0, 0, 1, 1);
        CHECK.dueThrow("part(-1, 0)", ARGUMENT, () -> x.part(-1, 0));
        CHECK.dueThrow("part(2001, 0)", ARGUMENT, () -> x.part(2001, 0));
        CHECK.dueThrow("part(2001, 3): the first named", ARGUMENT, () -> x.part(2001, 3));
        CHECK.dueThrow("part(0, 3)", INDEX, () -> x.part(0, 3));
        CHECK.dueThrow("part(7, -1)", INDEX, () -> x.part(7, -1));
    }

    private static void below() {
        CHECK.at("20 below");
        CoinMechanism x = Machines.withTubes(new int[] {20, 50, 30}, new int[] {3, 1, 2});
        CHECK.due("below(0)", x.below(0), 0);
        CHECK.due("below(19)", x.below(19), 0);
        CHECK.due("below(20)", x.below(20), 20);
        CHECK.due("below(39)", x.below(39), 30);
        CHECK.due("below(169)", x.below(169), 150);
        CHECK.due("below(2000)", x.below(2000), 170);
        CHECK.due("below(1)", Machines.withTubes(new int[] {1}, new int[] {1}).below(1), 1);
        CHECK.due("below(77), no kinds", new CoinMechanism().below(77), 0);
        CHECK.due("below(2000)", Machines.withTubes(new int[] {500}, new int[] {5}).below(2000), 2000);
        CHECK.dueThrow("below(-1)", ARGUMENT, () -> x.below(-1));
        CHECK.dueThrow("below(2001)", ARGUMENT, () -> x.below(2001));
    }

    private static void gaps() {
        CHECK.at("21 gaps");
        CoinMechanism x = Machines.withTubes(new int[] {20, 50, 30}, new int[] {3, 1, 2});
        CHECK.due("gaps(0)", x.gaps(0), 0);
        CHECK.due("gaps(9)", x.gaps(9), 0);
        CHECK.due("gaps(10)", x.gaps(10), 1);
        CHECK.due("gaps(159)", x.gaps(159), 1);
        CHECK.due("gaps(160)", x.gaps(160), 2);
        CHECK.due("gaps(2000)", x.gaps(2000), 200 - 15);
        CHECK.due("gaps(2000), no kinds", new CoinMechanism().gaps(2000), 0);
        CHECK.due("gaps(2000), empty tube", Machines.withTubes(new int[] {1}, new int[] {0}).gaps(2000), 2000);
        CHECK.dueThrow("gaps(-1)", ARGUMENT, () -> x.gaps(-1));
        CHECK.dueThrow("gaps(2001)", ARGUMENT, () -> x.gaps(2001));
        CHECK.dueThrow("gaps(2001), no kinds", ARGUMENT, () -> new CoinMechanism().gaps(2001));
    }

    // ---- promises 22 and 23

    private static void unit() {
        CHECK.at("22 unit");
        CoinMechanism x = new CoinMechanism();
        CHECK.due("unit(), no kinds", x.unit(), 0);
        x.addKind(500, 0);
        CHECK.due("unit()", x.unit(), 500);
        x.addKind(200, 0);
        CHECK.due("unit()", x.unit(), 100);
        x.addKind(50, 0);
        x.accept(2, false);
        CHECK.due("unit(), not accepted", x.unit(), 50);
        x.addKind(75, 0);
        CHECK.due("unit()", x.unit(), 25);
        x.addKind(490, 0);
        CHECK.due("unit()", x.unit(), 5);
        x.addKind(499, 0);
        CHECK.due("unit()", x.unit(), 1);
        CoinMechanism two = new CoinMechanism();
        two.addKind(6, 0);
        two.addKind(4, 0);
        CHECK.due("unit()", two.unit(), 2);
        CoinMechanism one = new CoinMechanism();
        one.addKind(1, 0);
        CHECK.due("unit()", one.unit(), 1);
    }

    private static void lamp() {
        CHECK.at("23 lamp");
        CoinMechanism x = new CoinMechanism();
        CHECK.due("lamp(), nothing there", x.lamp(), false);
        x.addKind(50, 9);
        CHECK.due("lamp(), no product", x.lamp(), false);
        x.addProduct(35, 0);
        CHECK.due("lamp(), no stock", x.lamp(), false);
        x.setProduct(0, 35, 1);
        CHECK.due("lamp(), 15 is missing", x.lamp(), true);
        x.accept(0, false);
        CHECK.due("lamp(), not accepted", x.lamp(), false);
        x.accept(0, true);
        x.addKind(5, 9);
        x.fill(1, 2);
        CHECK.due("lamp(), 10 is there", x.lamp(), true);
        x.fill(1, 1);
        CHECK.due("lamp(), 15 is there", x.lamp(), false);
        x.setProduct(0, 100, 1);
        x.take(1, 9);
        CHECK.due("lamp(), two coins of 50 are exact", x.lamp(), false);
        x.setProduct(0, 101, 1);
        CHECK.due("lamp(), 49 and 4", x.lamp(), true);
        x.fill(1, 9);
        CHECK.insertAll(x, 1, 1, 1);
        CHECK.due("lamp(), still", x.lamp(), true);
    }

    private static void lampForEachProductAndKind() {
        CHECK.at("23 lamp, each of them");
        CoinMechanism x = new CoinMechanism();
        x.addKind(10, 60);
        x.addKind(500, 60);
        x.addProduct(500, 9);
        CHECK.due("lamp(), 500 of both", x.lamp(), false);
        x.addProduct(10, 9);
        CHECK.due("lamp(), 490 of the second", x.lamp(), true);
        x.fill(0, 49);
        CHECK.due("lamp()", x.lamp(), false);
        x.take(0, 1);
        CHECK.due("lamp()", x.lamp(), true);
        x.setProduct(1, 10, 0);
        CHECK.due("lamp(), only the first is there", x.lamp(), false);
        x.setProduct(1, 1990, 1);
        CHECK.due("lamp(), 10 of four coins", x.lamp(), false);
        x.take(0, 60);
        CHECK.due("lamp()", x.lamp(), true);
        CoinMechanism y = new CoinMechanism();
        y.addKind(1, 60);
        y.addKind(500, 60);
        y.addKind(439, 60);
        y.addProduct(1, 1);
        y.accept(2, false);
        y.fill(0, 60);
        y.fill(2, 1);
        CHECK.due("lamp(), 499 = 439 + 60", y.lamp(), false);
        y.take(0, 1);
        CHECK.due("lamp()", y.lamp(), true);
    }

    // ---- promises 24 to 26

    private static void audit() {
        CHECK.at("24 audit");
        CoinMechanism x = Machines.small();
        CHECK.dueAudit(x);
        x.fill(0, 9);
        x.fill(2, 20);
        x.take(2, 3);
        CHECK.insertAll(x, 2, 2);
        x.cancel();
        CHECK.insertAll(x, 1, 1);
        CHECK.due("buy(0)", x.buy(0), 0);
        CHECK.due("refund()", x.refund(), true);
        CHECK.insertAll(x, 2, 2, 2, 2, 2, 2, 2);
        CHECK.due("buy(0)", x.buy(0), 0);
        x.emptyBox();
        CHECK.dueAudit(x, 145, 10, 65, 35, 140, 15, 50, 70, 2, 1);
        CHECK.dueThrow("audit(10)", INDEX, () -> x.audit(10));
        CHECK.dueThrow("audit(-1)", INDEX, () -> x.audit(-1));
    }

    private static void exactShare() {
        CHECK.at("25 exactShare");
        CoinMechanism x = Machines.small();
        CHECK.due("exactShare()", x.exactShare(), 1.0);
        x.fill(2, 60);
        CHECK.insertAll(x, 1);
        x.buy(0);
        CHECK.due("exactShare()", x.exactShare(), 0.0);
        CHECK.insertAll(x, 0, 0, 0, 2);
        x.buy(0);
        CHECK.due("exactShare()", x.exactShare(), 0.5);
        CHECK.insertAll(x, 1);
        x.buy(0);
        CHECK.due("exactShare()", x.exactShare(), 1.0 / 3.0);
        x.refund();
        CHECK.due("exactShare() after a refund", x.exactShare(), 1.0 / 3.0);
    }

    private static void digest() {
        CHECK.at("26 digest");
        CoinMechanism x = new CoinMechanism();
        CHECK.due("digest(), new", x.digest(), digestOf(0, 1000, 0, 0, 0, 0, 0, 0, 0, 0, 0, 0, 0, 0));
        x.addKind(10, 1);
        x.addKind(5, 60);
        x.accept(1, false);
        x.fill(1, 9);
        x.addProduct(35, 5);
        x.addProduct(2000, 1);
        CHECK.insertAll(x, 0, 0, 0, 0);
        x.buy(0);
        CHECK.insertAll(x, 0);
        x.accept(1, true);
        CHECK.insertAll(x, 1, 0);
        x.accept(1, false);
        x.setLimit(77);
        CHECK.due("digest()", x.digest(), digestOf(
            2, 10, 1, 3, 0, 1, 5, 8, 0, 1, 0,
            77, 2, 35, 4, 2000, 1,
            3, 0, 1, 0,
            65, 0, 5, 0, 45, 0, 0, 35, 1, 0));
    }

    private static long digestOf(long... numbers) {
        long d = 181;
        for (long x : numbers) {
            d = d * 31 + x;
        }
        return d;
    }

    // ---- the Description: a method that throws changes nothing

    private static void throwingChangesNothing() {
        CHECK.at("throwing changes nothing");
        CoinMechanism x = Machines.small();
        x.fill(2, 9);
        CHECK.insertAll(x, 0, 1);
        long before = x.digest();
        Check.Call[] calls = {
            () -> x.addKind(0, 1), () -> x.addKind(10, 1), () -> x.fill(0, 61), () -> x.fill(3, 1),
            () -> x.take(2, 61), () -> x.take(3, 1), () -> x.accept(3, false), () -> x.setLimit(-1),
            () -> x.addProduct(0, 0), () -> x.setProduct(0, 1, 100), () -> x.setProduct(0, 0, 1),
            () -> x.setProduct(1, 1, 1), () -> x.product(1, true), () -> x.insert(3), () -> x.buy(1),
            () -> x.refund(), () -> x.escrow(2), () -> x.coins(0, 4), () -> x.fewest(-1),
            () -> x.part(0, 3), () -> x.below(-1), () -> x.gaps(-1), () -> x.audit(10)};
        for (int i = 0; i < calls.length; i++) {
            CHECK.due("call " + i + " throws", Check.outcome(calls[i]).startsWith("throws "), true);
            CHECK.due("digest() after call " + i, x.digest(), before);
        }
    }

    // ---- all limits at once: 8 kinds, 10 products, full tubes, 12 coins in the escrow

    private static void aFullMachine() {
        CHECK.at("a full machine");
        CoinMechanism x = new CoinMechanism();
        for (int kind = 0; kind < 8; kind++) {
            x.addKind(80 - 10 * kind, 60);
            x.fill(kind, 60);
        }
        for (int product = 0; product < 10; product++) {
            x.addProduct(100 + 10 * product, 99);
        }
        CHECK.insertAll(x, 0, 1, 2, 3, 4, 5, 6, 7, 7, 7, 7, 7);
        CHECK.due("credit()", x.credit(), 400);
        CHECK.due("unit()", x.unit(), 10);
        CHECK.due("lamp()", x.lamp(), false);
        CHECK.due("gaps(2000)", x.gaps(2000), 0);
        CHECK.due("below(2000)", x.below(2000), 2000);
        CHECK.dueParts(x, 150, 1, 1, 0, 0, 0, 0, 0, 0);
        CHECK.due("buy(9)", x.buy(9), 0);
        CHECK.dueCoins(x, 2, 1, 1, 1, 1, 1, 1, 1, 5);
        CHECK.dueCoins(x, 3, 2, 0, 0, 1, 0, 0, 0, 0);
        CHECK.dueCoins(x, 1, 58, 60, 60, 59, 60, 60, 60, 60);
        CHECK.due("refund()", x.refund(), true);
        CHECK.dueCoins(x, 3, 2, 0, 0, 0, 0, 1, 0, 0);
        CHECK.due("emptyBox()", x.emptyBox(), 400);
        CHECK.insertAll(x, 7);
        CHECK.due("cancel()", x.cancel(), 10);
        CHECK.dueAudit(x, 410, 10, 210, 190, 21600, 0, 400, 190, 1, 0);
        CHECK.due("digest()", x.digest(), digestOf(
            8, 80, 56, 0, 2, 1, 70, 60, 0, 0, 1, 60, 60, 0, 0, 1, 50, 59, 0, 0, 1,
            40, 60, 0, 0, 1, 30, 59, 0, 1, 1, 20, 60, 0, 0, 1, 10, 60, 0, 0, 1,
            1000, 10, 100, 99, 110, 99, 120, 99, 130, 99, 140, 99,
            150, 99, 160, 99, 170, 99, 180, 99, 190, 99,
            0, 410, 10, 210, 190, 21600, 0, 400, 190, 1, 0));
    }
}
