/** A coin mechanism of a vending machine, as ../shared/DOC.md promises it. */
public final class CoinMechanism {
    private static final int MAX_KINDS = 8;
    private static final int MAX_VALUE = 500;
    private static final int MAX_TUBE = 60;
    private static final int MAX_PRODUCTS = 10;
    private static final int MAX_PRICE = 2000;
    private static final int MAX_STOCK = 99;
    private static final int MAX_ESCROW = 12;
    private static final int MAX_LIMIT = 2000;
    private static final int MAX_AMOUNT = 2000;
    private static final int FIRST_LIMIT = 1000;
    private static final int NO_SALE = -1;

    private static final int VALUE = 0;
    private static final int IN_TUBE = 1;
    private static final int IN_BOX = 2;
    private static final int PAID_LAST = 3;
    private static final int TOLD_OF_KIND = 4;

    private static final int CAME_IN = 0;
    private static final int GIVEN_BACK = 1;
    private static final int PAID_FOR_SALES = 2;
    private static final int PAID_FOR_REFUNDS = 3;
    private static final int FILLED = 4;
    private static final int TAKEN = 5;
    private static final int FROM_BOX = 6;
    private static final int PRICES = 7;
    private static final int SALES = 8;
    private static final int EXACT_SALES = 9;
    private static final int COUNTERS = 10;

    // A way to pay is one long, its score, so that the greatest score is the way
    // that the document wants: every coin takes COIN off, so fewer coins win; and
    // every coin adds 1 to the digit of its kind, greater values at higher digits,
    // so among equally many coins those of the greatest value decide first. A tube
    // has at most 60 coins and a digit holds 63, so that no digit runs over; and 480
    // coins never come down to NO_WAY.
    private static final int DIGIT_BITS = 6;
    private static final long DIGIT_MASK = 63L;
    private static final int COIN_BITS = DIGIT_BITS * MAX_KINDS;
    private static final long COIN = 1L << COIN_BITS;
    private static final long NO_WAY = -(1L << 62);

    private int kinds;
    private final int[] values;
    private final int[] capacities;
    private final int[] tubes;
    private final int[] boxed;
    private final int[] paid;
    private final boolean[] accepted;

    private int products;
    private final int[] prices;
    private final int[] stocks;

    private int limit;
    private int waiting;
    private final int[] waitingKinds;

    private int soldProduct;
    private int soldPrice;
    private final long[] counters;

    // These two are only written anew and read within one call; they are kept
    // because rows made in each call would fill the room that all calls share.
    private final long[] scores;
    private final int[] tubesAfter;

    public CoinMechanism() {
        kinds = 0;
        values = new int[MAX_KINDS];
        capacities = new int[MAX_KINDS];
        tubes = new int[MAX_KINDS];
        boxed = new int[MAX_KINDS];
        paid = new int[MAX_KINDS];
        accepted = new boolean[MAX_KINDS];
        products = 0;
        prices = new int[MAX_PRODUCTS];
        stocks = new int[MAX_PRODUCTS];
        limit = FIRST_LIMIT;
        waiting = 0;
        waitingKinds = new int[MAX_ESCROW];
        soldProduct = NO_SALE;
        soldPrice = 0;
        counters = new long[COUNTERS];
        scores = new long[MAX_AMOUNT + 1];
        tubesAfter = new int[MAX_KINDS];
    }

    // ---- service

    public int addKind(int value, int capacity) throws IllegalArgumentException, IllegalStateException {
        if (value < 1 || value > MAX_VALUE) {
            throw new IllegalArgumentException("value is not 1 to 500");
        }
        if (capacity < 0 || capacity > MAX_TUBE) {
            throw new IllegalArgumentException("capacity is not 0 to 60");
        }
        if (kinds >= MAX_KINDS) {
            throw new IllegalStateException("there are 8 kinds");
        }
        if (hasKindOfValue(value)) {
            throw new IllegalStateException("a kind has this value");
        }
        values[kinds] = value;
        capacities[kinds] = capacity;
        accepted[kinds] = true;
        kinds++;
        return kinds - 1;
    }

    public int fill(int kind, int many) throws IndexOutOfBoundsException, IllegalArgumentException {
        checkKind(kind);
        checkMany(many);
        int filled = Math.min(many, capacities[kind] - tubes[kind]);
        tubes[kind] += filled;
        counters[FILLED] += filled * values[kind];
        return many - filled;
    }

    public int take(int kind, int many) throws IndexOutOfBoundsException, IllegalArgumentException {
        checkKind(kind);
        checkMany(many);
        int taken = Math.min(many, tubes[kind]);
        tubes[kind] -= taken;
        counters[TAKEN] += taken * values[kind];
        return taken;
    }

    public int emptyBox() {
        int sum = 0;
        for (int kind = 0; kind < kinds; kind++) {
            sum += boxed[kind] * values[kind];
            boxed[kind] = 0;
        }
        counters[FROM_BOX] += sum;
        return sum;
    }

    public boolean accept(int kind, boolean isOn) throws IndexOutOfBoundsException {
        checkKind(kind);
        boolean before = accepted[kind];
        accepted[kind] = isOn;
        return before;
    }

    public int setLimit(int limit) throws IllegalArgumentException {
        if (limit < 0 || limit > MAX_LIMIT) {
            throw new IllegalArgumentException("limit is not 0 to 2000");
        }
        int before = this.limit;
        this.limit = limit;
        return before;
    }

    public int addProduct(int price, int stock) throws IllegalArgumentException, IllegalStateException {
        checkPriceAndStock(price, stock);
        if (products >= MAX_PRODUCTS) {
            throw new IllegalStateException("there are 10 products");
        }
        prices[products] = price;
        stocks[products] = stock;
        products++;
        return products - 1;
    }

    public int setProduct(int product, int price, int stock) throws IndexOutOfBoundsException, IllegalArgumentException {
        checkProduct(product);
        checkPriceAndStock(price, stock);
        int before = prices[product];
        prices[product] = price;
        stocks[product] = stock;
        return before;
    }

    public int product(int product, boolean isStock) throws IndexOutOfBoundsException {
        checkProduct(product);
        return isStock ? stocks[product] : prices[product];
    }

    // ---- coins and sales

    public int insert(int kind) throws IndexOutOfBoundsException {
        checkKind(kind);
        if (!accepted[kind]) {
            return 1;
        }
        if (waiting >= MAX_ESCROW) {
            return 2;
        }
        if (credit() + values[kind] > limit) {
            return 3;
        }
        waitingKinds[waiting] = kind;
        waiting++;
        counters[CAME_IN] += values[kind];
        return 0;
    }

    public int cancel() {
        int sum = credit();
        waiting = 0;
        counters[GIVEN_BACK] += sum;
        return sum;
    }

    public int buy(int product) throws IndexOutOfBoundsException {
        checkProduct(product);
        if (stocks[product] == 0) {
            return 1;
        }
        int price = prices[product];
        int change = credit() - price;
        if (change < 0) {
            return 2;
        }
        foreseeTubes();
        scoreWays(change, tubesAfter);
        long way = scoreOf(change);
        if (way == NO_WAY) {
            return 3;
        }
        dropWaiting();
        payOut(way);
        stocks[product]--;
        soldProduct = product;
        soldPrice = price;
        countSale(price, change);
        return 0;
    }

    public boolean refund() throws IllegalStateException {
        if (soldProduct < 0 || soldProduct >= products) {
            throw new IllegalStateException("no sale can be taken back");
        }
        scoreWays(soldPrice, tubes);
        long way = scoreOf(soldPrice);
        if (way == NO_WAY) {
            return false;
        }
        payOut(way);
        stocks[soldProduct] = Math.min(stocks[soldProduct] + 1, MAX_STOCK);
        counters[PAID_FOR_REFUNDS] += soldPrice;
        soldProduct = NO_SALE;
        return true;
    }

    public int credit() {
        int sum = 0;
        for (int kind = 0; kind < kinds; kind++) {
            sum += waitingOf(kind) * values[kind];
        }
        return sum;
    }

    public int escrow(int index) throws IndexOutOfBoundsException {
        if (index < 0 || index >= waiting) {
            throw new IndexOutOfBoundsException("no such index in the escrow");
        }
        return waitingKinds[index];
    }

    public int coins(int kind, int what) throws IndexOutOfBoundsException {
        checkKind(kind);
        if (what < 0 || what >= TOLD_OF_KIND) {
            throw new IndexOutOfBoundsException("what is not 0 to 3");
        }
        return toldOfKind(kind, what);
    }

    // ---- what can be paid now, from the tubes alone

    public int fewest(int amount) throws IllegalArgumentException {
        checkAmount(amount);
        scoreWays(amount, tubes);
        long way = scoreOf(amount);
        return way == NO_WAY ? -1 : coinsInWay(way);
    }

    public int part(int amount, int kind) throws IllegalArgumentException, IndexOutOfBoundsException {
        checkAmount(amount);
        checkKind(kind);
        scoreWays(amount, tubes);
        long way = scoreOf(amount);
        return way == NO_WAY ? -1 : coinsOfKindInWay(way, kind);
    }

    public int below(int amount) throws IllegalArgumentException {
        checkAmount(amount);
        scoreWays(amount, tubes);
        for (int lower = amount; lower > 0; lower--) {
            if (scoreOf(lower) != NO_WAY) {
                return lower;
            }
        }
        return 0;
    }

    public int gaps(int amount) throws IllegalArgumentException {
        checkAmount(amount);
        int unit = unit();
        if (unit < 1) {
            return 0;
        }
        scoreWays(amount, tubes);
        int gaps = 0;
        for (int lower = 1; lower <= amount; lower++) {
            if (lower % unit == 0 && scoreOf(lower) == NO_WAY) {
                gaps++;
            }
        }
        return gaps;
    }

    public int unit() {
        if (kinds == 0) {
            return 0;
        }
        for (int divisor = MAX_VALUE; divisor > 1; divisor--) {
            if (dividesAllValues(divisor)) {
                return divisor;
            }
        }
        return 1;
    }

    public boolean lamp() {
        scoreWays(MAX_VALUE, tubes);
        for (int product = 0; product < products; product++) {
            if (stocks[product] > 0 && needsExactMoney(prices[product])) {
                return true;
            }
        }
        return false;
    }

    // ---- what was counted

    public long audit(int what) throws IndexOutOfBoundsException {
        if (what < 0 || what >= COUNTERS) {
            throw new IndexOutOfBoundsException("what is not 0 to 9");
        }
        return counters[what];
    }

    public double exactShare() {
        long sales = counters[SALES];
        return sales == 0 ? 1.0 : (double) counters[EXACT_SALES] / (double) sales;
    }

    public long digest() {
        long d = digestOfKinds(181L);
        d = d * 31 + limit;
        d = d * 31 + products;
        for (int product = 0; product < products; product++) {
            d = d * 31 + prices[product];
            d = d * 31 + stocks[product];
        }
        d = d * 31 + waiting;
        for (int i = 0; i < waiting; i++) {
            d = d * 31 + waitingKinds[i];
        }
        for (int what = 0; what < COUNTERS; what++) {
            d = d * 31 + counters[what];
        }
        return d;
    }

    // ---- tests of arguments

    private void checkKind(int kind) {
        if (kind < 0 || kind >= kinds) {
            throw new IndexOutOfBoundsException("no such kind");
        }
    }

    private void checkProduct(int product) {
        if (product < 0 || product >= products) {
            throw new IndexOutOfBoundsException("no such product");
        }
    }

    private static void checkMany(int many) {
        if (many < 0 || many > MAX_TUBE) {
            throw new IllegalArgumentException("many is not 0 to 60");
        }
    }

    private static void checkPriceAndStock(int price, int stock) {
        if (price < 1 || price > MAX_PRICE) {
            throw new IllegalArgumentException("price is not 1 to 2000");
        }
        if (stock < 0 || stock > MAX_STOCK) {
            throw new IllegalArgumentException("stock is not 0 to 99");
        }
    }

    private static void checkAmount(int amount) {
        if (amount < 0 || amount > MAX_AMOUNT) {
            throw new IllegalArgumentException("amount is not 0 to 2000");
        }
    }

    // ---- kinds

    private boolean hasKindOfValue(int value) {
        for (int kind = 0; kind < kinds; kind++) {
            if (values[kind] == value) {
                return true;
            }
        }
        return false;
    }

    private boolean dividesAllValues(int divisor) {
        for (int kind = 0; kind < kinds; kind++) {
            if (divisor < 1 || values[kind] % divisor != 0) {
                return false;
            }
        }
        return true;
    }

    private int toldOfKind(int kind, int what) {
        switch (what) {
            case VALUE:
                return values[kind];
            case IN_TUBE:
                return tubes[kind];
            case IN_BOX:
                return boxed[kind];
            case PAID_LAST:
                return paid[kind];
            default:
                return 0;
        }
    }

    private long digestOfKinds(long start) {
        long d = start * 31 + kinds;
        for (int kind = 0; kind < kinds; kind++) {
            for (int what = 0; what < TOLD_OF_KIND; what++) {
                d = d * 31 + toldOfKind(kind, what);
            }
            d = d * 31 + (accepted[kind] ? 1 : 0);
        }
        return d;
    }

    // ---- the escrow and sales

    private int waitingOf(int kind) {
        int many = 0;
        for (int i = 0; i < waiting; i++) {
            if (waitingKinds[i] == kind) {
                many++;
            }
        }
        return many;
    }

    private void foreseeTubes() {
        for (int kind = 0; kind < kinds; kind++) {
            tubesAfter[kind] = Math.min(tubes[kind] + waitingOf(kind), capacities[kind]);
        }
    }

    // Coins of one kind are alike and each kind has its own tube, so dropping kind
    // by kind ends as dropping in the order of the escrow does.
    private void dropWaiting() {
        for (int kind = 0; kind < kinds; kind++) {
            int many = waitingOf(kind);
            int intoTube = Math.min(many, capacities[kind] - tubes[kind]);
            tubes[kind] += intoTube;
            boxed[kind] += many - intoTube;
        }
        waiting = 0;
    }

    private void payOut(long way) {
        for (int kind = 0; kind < kinds; kind++) {
            paid[kind] = coinsOfKindInWay(way, kind);
            tubes[kind] -= paid[kind];
        }
    }

    private void countSale(int price, int change) {
        counters[PAID_FOR_SALES] += change;
        counters[PRICES] += price;
        counters[SALES]++;
        if (change == 0) {
            counters[EXACT_SALES]++;
        }
    }

    // ---- ways to pay

    // After this, scoreOf tells of the amounts 0 to most.
    private void scoreWays(int most, int[] held) {
        int end = Math.min(most, MAX_AMOUNT);
        scores[0] = 0;
        for (int amount = 1; amount <= end; amount++) {
            scores[amount] = NO_WAY;
        }
        for (int kind = 0; kind < kinds; kind++) {
            addKindToWays(kind, held[kind], end);
        }
    }

    // Packs of 1, 2, 4, .. coins, and one of the rest, make every number of coins
    // that the tube can give, with far fewer rounds than coin by coin.
    private void addKindToWays(int kind, int many, int end) {
        long score = (1L << digitOf(kind)) - COIN;
        int left = many;
        for (int pack = 1; pack <= MAX_TUBE; pack *= 2) {
            int size = Math.min(pack, left);
            if (size > 0) {
                addPackToWays(size * values[kind], size * score, end);
            }
            left -= size;
        }
    }

    // Downwards, so that no way gets the same pack twice.
    private void addPackToWays(int sum, long score, int end) {
        for (int amount = end; amount >= sum; amount--) {
            long without = scores[amount - sum];
            if (without != NO_WAY) {
                scores[amount] = Math.max(scores[amount], without + score);
            }
        }
    }

    private long scoreOf(int amount) {
        return amount < 0 || amount > MAX_AMOUNT ? NO_WAY : scores[amount];
    }

    private int digitOf(int kind) {
        int lesser = 0;
        for (int other = 0; other < kinds; other++) {
            if (values[other] < values[kind]) {
                lesser++;
            }
        }
        return lesser * DIGIT_BITS;
    }

    private static int coinsInWay(long way) {
        return (int) -(way >> COIN_BITS);
    }

    private int coinsOfKindInWay(long way, int kind) {
        return (int) ((way >> digitOf(kind)) & DIGIT_MASK);
    }

    // ---- the lamp

    private boolean needsExactMoney(int price) {
        for (int kind = 0; kind < kinds; kind++) {
            if (accepted[kind] && scoreOf(overpaid(price, values[kind])) == NO_WAY) {
                return true;
            }
        }
        return false;
    }

    private static int overpaid(int price, int value) {
        int rest = value < 1 ? 0 : price % value;
        return rest == 0 ? 0 : value - rest;
    }
}
