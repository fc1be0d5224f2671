/** Mechanisms to begin tests with; each call makes a new one. */
final class Machines {
    private Machines() {
    }

    static CoinMechanism fresh() {
        return new CoinMechanism();
    }

    /** Kinds 10, 50, 5 (numbers 0, 1, 2), tubes for 4, 1 and 60, all empty; product 0: 35, stock 5. */
    static CoinMechanism small() {
        CoinMechanism x = new CoinMechanism();
        x.addKind(10, 4);
        x.addKind(50, 1);
        x.addKind(5, 60);
        x.addProduct(35, 5);
        return x;
    }

    /** A kind of each value, its tube for 60 coins, with so many coins in it. */
    static CoinMechanism withTubes(int[] values, int[] coins) {
        CoinMechanism x = new CoinMechanism();
        for (int i = 0; i < values.length; i++) {
            x.addKind(values[i], 60);
            x.fill(i, coins[i]);
        }
        return x;
    }

    /**
     * Kinds 10, 50, 5, 100 with tubes for 4, 1, 60, 0 coins, that have 4, 0, 3, 0; a
     * coin of 50 and one of 100 in the box; 10, 5, 50 in the escrow; 100 not accepted;
     * limit 500; products 35 (stock 4) and 20 (stock 1). The only sale was product 0
     * for 200: 165 were paid, with 3 of 10, 1 of 50 and 17 of 5; it can be taken back.
     */
    static CoinMechanism inUse() {
        CoinMechanism x = small();
        x.addKind(100, 0);
        x.addProduct(20, 1);
        x.fill(0, 3);
        x.fill(2, 20);
        x.insert(1);
        x.insert(3);
        x.insert(1);
        x.buy(0);
        x.fill(0, 4);
        x.accept(3, false);
        x.setLimit(500);
        x.insert(0);
        x.insert(2);
        x.insert(1);
        return x;
    }

    /** 8 kinds, 80 to 10, with full tubes for 60; 10 products, 100 to 190, stock 99; 12 coins (400) in the escrow. */
    static CoinMechanism full() {
        CoinMechanism x = new CoinMechanism();
        for (int kind = 0; kind < 8; kind++) {
            x.addKind(80 - 10 * kind, 60);
            x.fill(kind, 60);
        }
        for (int product = 0; product < 10; product++) {
            x.addProduct(100 + 10 * product, 99);
        }
        for (int i = 0; i < 12; i++) {
            x.insert(Math.min(i, 7));
        }
        return x;
    }
}
