import java.util.ArrayList;
import java.util.List;

/**
 * All that a mechanism tells, and then what it does when it is used until all that
 * is hidden in it (capacities, the latest sale) has shown: some 150 calls.
 */
final class Tale {
    private static final int[] AMOUNTS = {0, 1, 5, 10, 35, 99, 100, 499, 1000, 1999, 2000};

    private final CoinMechanism x;
    private final List<String> lines = new ArrayList<>();

    private Tale(CoinMechanism x) {
        this.x = x;
    }

    static List<String> of(CoinMechanism x) {
        Tale tale = new Tale(x);
        tale.asking();
        tale.acting();
        return tale.lines;
    }

    private void line(String call, Check.Call made) {
        lines.add(call + ": " + Check.outcome(made));
    }

    private void asking() {
        line("digest()", () -> x.digest());
        for (int kind = 0; kind <= 8; kind++) {
            for (int what = 0; what <= 3; what++) {
                int k = kind;
                int w = what;
                line("coins(" + k + ", " + w + ")", () -> x.coins(k, w));
            }
        }
        for (int product = 0; product <= 10; product++) {
            int p = product;
            line("product(" + p + ", false)", () -> x.product(p, false));
            line("product(" + p + ", true)", () -> x.product(p, true));
        }
        for (int index = 0; index <= 12; index++) {
            int i = index;
            line("escrow(" + i + ")", () -> x.escrow(i));
        }
        for (int what = 0; what <= 10; what++) {
            int w = what;
            line("audit(" + w + ")", () -> x.audit(w));
        }
        for (int amount : AMOUNTS) {
            line("fewest(" + amount + ")", () -> x.fewest(amount));
        }
        line("credit()", () -> x.credit());
        line("below(1999)", () -> x.below(1999));
        line("gaps(2000)", () -> x.gaps(2000));
        line("unit()", () -> x.unit());
        line("lamp()", () -> x.lamp());
        line("exactShare()", () -> x.exactShare());
    }

    private void acting() {
        line("refund()", () -> x.refund());
        line("refund()", () -> x.refund());
        for (int kind = 0; kind < 8; kind++) {
            int k = kind;
            line("accept(" + k + ", true)", () -> x.accept(k, true));
            line("fill(" + k + ", 60)", () -> x.fill(k, 60));
            line("insert(" + k + ")", () -> x.insert(k));
        }
        line("setLimit(2000)", () -> x.setLimit(2000));
        for (int kind = 0; kind < 8; kind++) {
            int k = kind;
            line("insert(" + k + ")", () -> x.insert(k));
        }
        for (int product = 0; product < 10; product++) {
            int p = product;
            line("buy(" + p + ")", () -> x.buy(p));
        }
        line("refund()", () -> x.refund());
        line("cancel()", () -> x.cancel());
        line("emptyBox()", () -> x.emptyBox());
        line("addKind(487, 1)", () -> x.addKind(487, 1));
        line("addProduct(3, 1)", () -> x.addProduct(3, 1));
        line("digest()", () -> x.digest());
    }
}
