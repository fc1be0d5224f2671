/** The edges that the document names for the limit and the products: promises 7 to 10. */
public final class ProductsEdgesTest {
    private static final Class<IllegalArgumentException> ARGUMENT = MachineCheck.ARGUMENT;
    private static final Class<IllegalStateException> STATE = MachineCheck.STATE;
    private static final Class<IndexOutOfBoundsException> INDEX = MachineCheck.INDEX;
    private static final MachineCheck CHECK = new MachineCheck();

    public static void main(String[] args) {
        CHECK.run(
            ProductsEdgesTest::limit1000AtFirst,
            ProductsEdgesTest::limit0To2000,
            ProductsEdgesTest::limitBelowTheCredit,
            ProductsEdgesTest::atMostTenProducts,
            ProductsEdgesTest::numberedInOrder,
            ProductsEdgesTest::priceOfANewProduct,
            ProductsEdgesTest::stockOfANewProduct,
            ProductsEdgesTest::firstNamedOfAddProduct,
            ProductsEdgesTest::setNoSuchProduct,
            ProductsEdgesTest::setPrice1To2000,
            ProductsEdgesTest::setStock0To99,
            ProductsEdgesTest::firstNamedOfSetProduct,
            ProductsEdgesTest::setOneProductAlone,
            ProductsEdgesTest::askForNoSuchProduct,
            ProductsEdgesTest::priceOrStock);
        CHECK.end();
    }

    /** Products 0, 1, ..: prices 100, 101, .. and stocks 90, 91, .. */
    private static CoinMechanism withProducts(int many) {
        CoinMechanism x = new CoinMechanism();
        for (int i = 0; i < many; i++) {
            x.addProduct(100 + i, 90 + i);
        }
        return x;
    }

    // ---- promise 7

    private static void limit1000AtFirst() {
        CHECK.at("Description: a limit for the credit, 1000 at first");
        CHECK.due("setLimit(1)", new CoinMechanism().setLimit(1), 1000);
        CoinMechanism x = Machines.withTubes(new int[] {500, 499, 1, 2}, new int[4]);
        CHECK.insertAll(x, 0, 1);
        CHECK.due("insert(3): 1001", x.insert(3), 3);
        CHECK.due("insert(2): 1000", x.insert(2), 0);
        CHECK.due("insert(2): 1001", x.insert(2), 3);
        CHECK.due("credit()", x.credit(), 1000);
    }

    private static void limit0To2000() {
        CHECK.at("7: if limit is not 0 to 2000");
        CHECK.refusedOutside("setLimit(#)", ARGUMENT, 0, 2000, Machines::fresh, (x, l) -> x.setLimit(l));
        CHECK.refusedOutside("setLimit(#)", ARGUMENT, 0, 2000, Machines::inUse, (x, l) -> x.setLimit(l));
        CoinMechanism x = Machines.withTubes(new int[] {500, 1}, new int[2]);
        CHECK.due("setLimit(0): the limit before", x.setLimit(0), 1000);
        CHECK.due("insert(1): 1 is above 0", x.insert(1), 3);
        CHECK.due("setLimit(1)", x.setLimit(1), 0);
        CHECK.due("insert(1)", x.insert(1), 0);
        CHECK.due("setLimit(1999)", x.setLimit(1999), 1);
        CHECK.insertAll(x, 0, 0, 0);
        CHECK.due("insert(0): 2001", x.insert(0), 3);
        CHECK.due("cancel()", x.cancel(), 1501);
        CHECK.insertAll(x, 0, 0, 0);
        CHECK.due("insert(0): 2000 is above 1999", x.insert(0), 3);
        CHECK.due("setLimit(2000)", x.setLimit(2000), 1999);
        CHECK.due("insert(0): 2000", x.insert(0), 0);
        CHECK.due("insert(1): 2001", x.insert(1), 3);
        CHECK.due("setLimit(2000)", x.setLimit(2000), 2000);
        CHECK.due("credit()", x.credit(), 2000);
    }

    private static void limitBelowTheCredit() {
        CHECK.at("7: a limit below the credit holds for the next coin");
        CoinMechanism x = Machines.inUse();
        CHECK.due("setLimit(0)", x.setLimit(0), 500);
        CHECK.due("credit()", x.credit(), 65);
        CHECK.dueEscrow(x, 0, 2, 1);
        CHECK.due("insert(2)", x.insert(2), 3);
        CHECK.due("buy(0)", x.buy(0), 0);
        CHECK.due("insert(2)", x.insert(2), 3);
        CoinMechanism y = Machines.inUse();
        y.setLimit(64);
        CHECK.due("cancel()", y.cancel(), 65);
    }

    // ---- promise 8

    private static void atMostTenProducts() {
        CHECK.at("8: if there are 10 products");
        for (int many = 0; many < 10; many++) {
            CHECK.due("addProduct(5, 5) to " + many, withProducts(many).addProduct(5, 5), many);
        }
        CHECK.refused("addProduct(5, 5) to 10", STATE, () -> withProducts(10), x -> x.addProduct(5, 5));
        CHECK.refused("addProduct(1, 0) to 10", STATE, Machines::full, x -> x.addProduct(1, 0));
        CHECK.refused("addProduct(2000, 99) to 10", STATE, Machines::full, x -> x.addProduct(2000, 99));
        CoinMechanism x = withProducts(10);
        for (int i = 0; i < 11; i++) {
            CHECK.dueThrow("addProduct(5, 5), again", STATE, () -> x.addProduct(5, 5));
        }
        CHECK.dueProduct(x, 9, 109, 99);
    }

    private static void numberedInOrder() {
        CHECK.at("Description: products, numbered from 0 in the order of their creation");
        CoinMechanism x = new CoinMechanism();
        for (int i = 0; i < 10; i++) {
            CHECK.due("addProduct(7, 3): the same once more is fine", x.addProduct(7, 3), i);
            CHECK.dueThrow("addProduct(0, 3) takes no number", ARGUMENT, () -> x.addProduct(0, 3));
        }
        CoinMechanism y = withProducts(10);
        for (int i = 0; i < 10; i++) {
            CHECK.dueProduct(y, i, 100 + i, 90 + i);
        }
    }

    private static void priceOfANewProduct() {
        CHECK.at("8: if price is not 1 to 2000");
        CHECK.refusedOutside("addProduct(#, 5)", ARGUMENT, 1, 2000, Machines::fresh, (x, p) -> x.addProduct(p, 5));
        CHECK.refusedOutside("addProduct(#, 5)", ARGUMENT, 1, 2000, Machines::inUse, (x, p) -> x.addProduct(p, 5));
        CoinMechanism x = new CoinMechanism();
        int[] prices = {1, 2000, 2, 1999};
        for (int i = 0; i < 4; i++) {
            CHECK.due("addProduct(" + prices[i] + ", 5)", x.addProduct(prices[i], 5), i);
            CHECK.dueProduct(x, i, prices[i], 5);
        }
    }

    private static void stockOfANewProduct() {
        CHECK.at("8: or stock is not 0 to 99");
        CHECK.refusedOutside("addProduct(5, #)", ARGUMENT, 0, 99, Machines::fresh, (x, s) -> x.addProduct(5, s));
        CHECK.refusedOutside("addProduct(5, #)", ARGUMENT, 0, 99, Machines::inUse, (x, s) -> x.addProduct(5, s));
        CoinMechanism x = new CoinMechanism();
        int[] stocks = {0, 99, 1, 98};
        for (int i = 0; i < 4; i++) {
            CHECK.due("addProduct(5, " + stocks[i] + ")", x.addProduct(5, stocks[i]), i);
            CHECK.dueProduct(x, i, 5, stocks[i]);
        }
    }

    private static void firstNamedOfAddProduct() {
        CHECK.at("8: of several exceptions the one that is named first");
        CHECK.refused("addProduct(0, 5) to 10", ARGUMENT, Machines::full, x -> x.addProduct(0, 5));
        CHECK.refused("addProduct(2001, 5) to 10", ARGUMENT, Machines::full, x -> x.addProduct(2001, 5));
        CHECK.refused("addProduct(5, -1) to 10", ARGUMENT, Machines::full, x -> x.addProduct(5, -1));
        CHECK.refused("addProduct(5, 100) to 10", ARGUMENT, Machines::full, x -> x.addProduct(5, 100));
    }

    // ---- promise 9

    private static void setNoSuchProduct() {
        CHECK.at("9: setProduct throws if there is no such product");
        CHECK.refusedOutside("setProduct(#, 9, 9)", INDEX, 0, -1, Machines::fresh, (x, p) -> x.setProduct(p, 9, 9));
        CHECK.refusedOutside("setProduct(#, 9, 9)", INDEX, 0, 1, Machines::inUse, (x, p) -> x.setProduct(p, 9, 9));
        CHECK.refusedOutside("setProduct(#, 9, 9)", INDEX, 0, 9, Machines::full, (x, p) -> x.setProduct(p, 9, 9));
        CoinMechanism x = withProducts(10);
        CHECK.due("setProduct(9, 5, 6), the last", x.setProduct(9, 5, 6), 109);
        CHECK.due("setProduct(0, 7, 8), the first", x.setProduct(0, 7, 8), 100);
        CHECK.dueProduct(x, 9, 5, 6);
        CHECK.dueProduct(x, 0, 7, 8);
    }

    private static void setPrice1To2000() {
        CHECK.at("9: if price is not 1 to 2000");
        CHECK.refusedOutside("setProduct(1, #, 9)", ARGUMENT, 1, 2000, Machines::inUse, (x, p) -> x.setProduct(1, p, 9));
        CoinMechanism x = Machines.inUse();
        CHECK.due("setProduct(1, 1, 9)", x.setProduct(1, 1, 9), 20);
        CHECK.dueProduct(x, 1, 1, 9);
        CHECK.due("setProduct(1, 2000, 9)", x.setProduct(1, 2000, 9), 1);
        CHECK.dueProduct(x, 1, 2000, 9);
        CHECK.due("setProduct(1, 2000, 9), as it was", x.setProduct(1, 2000, 9), 2000);
    }

    private static void setStock0To99() {
        CHECK.at("9: or stock is not 0 to 99");
        CHECK.refusedOutside("setProduct(1, 9, #)", ARGUMENT, 0, 99, Machines::inUse, (x, s) -> x.setProduct(1, 9, s));
        CoinMechanism x = Machines.inUse();
        CHECK.due("setProduct(1, 9, 0)", x.setProduct(1, 9, 0), 20);
        CHECK.dueProduct(x, 1, 9, 0);
        CHECK.due("setProduct(1, 9, 99)", x.setProduct(1, 9, 99), 9);
        CHECK.dueProduct(x, 1, 9, 99);
    }

    private static void firstNamedOfSetProduct() {
        CHECK.at("9: of several exceptions the one that is named first");
        CHECK.refused("setProduct(2, 0, 9)", INDEX, Machines::inUse, x -> x.setProduct(2, 0, 9));
        CHECK.refused("setProduct(2, 2001, 9)", INDEX, Machines::inUse, x -> x.setProduct(2, 2001, 9));
        CHECK.refused("setProduct(-1, 9, -1)", INDEX, Machines::inUse, x -> x.setProduct(-1, 9, -1));
        CHECK.refused("setProduct(-1, 9, 100)", INDEX, Machines::inUse, x -> x.setProduct(-1, 9, 100));
        CHECK.refused("setProduct(0, 0, 0), none there", INDEX, Machines::fresh, x -> x.setProduct(0, 0, 0));
    }

    private static void setOneProductAlone() {
        CHECK.at("9: the price and the stock of a product");
        CoinMechanism x = withProducts(3);
        CHECK.due("setProduct(1, 5, 6)", x.setProduct(1, 5, 6), 101);
        CHECK.dueProduct(x, 0, 100, 90);
        CHECK.dueProduct(x, 1, 5, 6);
        CHECK.dueProduct(x, 2, 102, 92);
        CHECK.unchanged("setProduct(0, 35, 4), as it was", 35, Machines::inUse, y -> y.setProduct(0, 35, 4));
    }

    // ---- promise 10

    private static void askForNoSuchProduct() {
        CHECK.at("10: product throws if there is no such product");
        for (boolean isStock : new boolean[] {false, true}) {
            String call = "product(#, " + isStock + ")";
            CHECK.refusedOutside(call, INDEX, 0, -1, Machines::fresh, (x, p) -> x.product(p, isStock));
            CHECK.refusedOutside(call, INDEX, 0, 1, Machines::inUse, (x, p) -> x.product(p, isStock));
            CHECK.refusedOutside(call, INDEX, 0, 9, Machines::full, (x, p) -> x.product(p, isStock));
        }
    }

    private static void priceOrStock() {
        CHECK.at("10: whether its stock is asked for; otherwise its price");
        CHECK.unchanged("product(0, true), the first", 4, Machines::inUse, x -> x.product(0, true));
        CHECK.unchanged("product(0, false), the first", 35, Machines::inUse, x -> x.product(0, false));
        CHECK.unchanged("product(9, true), the last", 99, Machines::full, x -> x.product(9, true));
        CHECK.unchanged("product(9, false), the last", 190, Machines::full, x -> x.product(9, false));
    }
}
