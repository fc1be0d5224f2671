/** Runs of 512 calls, each answer and each digest compared with PlainMechanism. */
public final class LongRunsTest {
    private static final int RUNS = 300;
    private static final int CALLS = 512;
    private static final int[] WRONG = {-1, Integer.MIN_VALUE, Integer.MAX_VALUE, 61, 2001, 501};
    private static final int[][] SETS = {
        {1, 2, 5, 10, 20, 50, 100, 200}, {5, 10, 20, 50, 100, 200, 500}, {20, 50, 30, 70, 110, 90, 10, 40},
        {1, 7, 13, 19, 23, 31}, {500, 499, 498, 250, 3, 1}, {25, 10, 1}, {6, 9, 20}, {400}};

    private final Check check;
    private final CoinMechanism x = new CoinMechanism();
    private final PlainMechanism y = new PlainMechanism();
    private final int[] values;
    private long state;

    private LongRunsTest(Check check, int run) {
        this.check = check;
        this.state = run * 7919L + 1;
        this.values = SETS[run % SETS.length];
    }

    public static void main(String[] args) {
        Check check = new Check();
        for (int run = 0; run < RUNS && !check.isWrong(); run++) {
            new LongRunsTest(check, run).go(run);
        }
        check.end();
    }

    // An own row of numbers, so that every run of the tests makes the same calls.
    private int upTo(int most) {
        state = state * 6364136223846793005L + 1442695040888963407L;
        return (int) ((state >>> 33) % (most + 1));
    }

    private int orWrong(int right) {
        return upTo(40) == 0 ? WRONG[upTo(WRONG.length - 1)] : right;
    }

    private int kind() {
        return orWrong(upTo(values.length - (upTo(9) == 0 ? 0 : 1)));
    }

    private int many() {
        return orWrong(upTo(2) == 0 ? 60 - upTo(5) : upTo(12));
    }

    private int capacity() {
        return orWrong(upTo(2) == 0 ? 60 : upTo(10));
    }

    private int price() {
        int multiple = values[upTo(values.length - 1)] * (1 + upTo(3));
        return orWrong(upTo(5) == 0 ? 1 + upTo(1999) : Math.min(multiple, 2000));
    }

    private int stock() {
        return orWrong(upTo(3) == 0 ? 99 : upTo(3));
    }

    private int productNumber() {
        return orWrong(upTo(4));
    }

    private int amount() {
        return orWrong(upTo(1) == 0 ? upTo(2000) : upTo(200));
    }

    private void same(int run, int call, String name, Check.Call ofX, Check.Call ofY) {
        check.at("run " + run + ", call " + call);
        check.due(name, Check.outcome(ofX), Check.outcome(ofY));
        check.due("digest() after " + name, x.digest(), y.digest());
    }

    private void go(int run) {
        // Half of the calls, as digest() is called after each.
        for (int call = 0; call < CALLS / 2 && !check.isWrong(); call++) {
            int pick = call < 2 * values.length ? call % 2 : upTo(43);
            if (pick < 9) {
                service(run, call, pick);
            } else if (pick < 30) {
                sales(run, call, pick);
            } else {
                asking(run, call, pick);
            }
        }
    }

    private void service(int run, int call, int pick) {
        int value = orWrong(values[upTo(values.length - 1)]);
        int k = kind();
        int m = many();
        int c = capacity();
        int price = price();
        int stock = stock();
        int p = productNumber();
        boolean on = upTo(3) != 0;
        int limit = orWrong(upTo(1) == 0 ? 2000 : upTo(2000));
        switch (pick) {
            case 0 -> same(run, call, "addKind(" + value + ", " + c + ")", () -> x.addKind(value, c), () -> y.addKind(value, c));
            case 1, 2 -> same(run, call, "fill(" + k + ", " + m + ")", () -> x.fill(k, m), () -> y.fill(k, m));
            case 3 -> same(run, call, "take(" + k + ", " + m + ")", () -> x.take(k, m), () -> y.take(k, m));
            case 4 -> same(run, call, "emptyBox()", () -> x.emptyBox(), () -> y.emptyBox());
            case 5 -> same(run, call, "accept(" + k + ", " + on + ")", () -> x.accept(k, on), () -> y.accept(k, on));
            case 6 -> same(run, call, "setLimit(" + limit + ")", () -> x.setLimit(limit), () -> y.setLimit(limit));
            case 7 -> same(run, call, "addProduct(" + price + ", " + stock + ")", () -> x.addProduct(price, stock), () -> y.addProduct(price, stock));
            default -> same(run, call, "setProduct(" + p + ", " + price + ", " + stock + ")",
                () -> x.setProduct(p, price, stock), () -> y.setProduct(p, price, stock));
        }
    }

    private void sales(int run, int call, int pick) {
        int k = kind();
        int p = productNumber();
        if (pick < 20) {
            same(run, call, "insert(" + k + ")", () -> x.insert(k), () -> y.insert(k));
        } else if (pick < 26) {
            same(run, call, "buy(" + p + ")", () -> x.buy(p), () -> y.buy(p));
        } else if (pick < 29) {
            same(run, call, "refund()", () -> x.refund(), () -> y.refund());
        } else {
            same(run, call, "cancel()", () -> x.cancel(), () -> y.cancel());
        }
    }

    private void asking(int run, int call, int pick) {
        int a = amount();
        int k = kind();
        int what = orWrong(upTo(10));
        boolean isStock = upTo(1) == 0;
        switch (pick) {
            case 30 -> same(run, call, "fewest(" + a + ")", () -> x.fewest(a), () -> y.fewest(a));
            case 31, 32 -> same(run, call, "part(" + a + ", " + k + ")", () -> x.part(a, k), () -> y.part(a, k));
            case 33 -> same(run, call, "below(" + a + ")", () -> x.below(a), () -> y.below(a));
            case 34 -> same(run, call, "gaps(" + a + ")", () -> x.gaps(a), () -> y.gaps(a));
            case 35 -> same(run, call, "unit()", () -> x.unit(), () -> y.unit());
            case 36, 37 -> same(run, call, "lamp()", () -> x.lamp(), () -> y.lamp());
            case 38 -> same(run, call, "escrow(" + what + ")", () -> x.escrow(what), () -> y.escrow(what));
            case 39 -> same(run, call, "audit(" + what + ")", () -> x.audit(what), () -> y.audit(what));
            case 40 -> same(run, call, "product(" + what + ", " + isStock + ")", () -> x.product(what, isStock), () -> y.product(what, isStock));
            case 41 -> same(run, call, "coins(" + k + ", " + what % 5 + ")", () -> x.coins(k, what % 5), () -> y.coins(k, what % 5));
            case 42 -> same(run, call, "exactShare()", () -> x.exactShare(), () -> y.exactShare());
            default -> same(run, call, "credit()", () -> x.credit(), () -> y.credit());
        }
    }
}
