import java.util.List;

/** Checks of what a mechanism tells, and of calls after which it must be as it was. */
final class MachineCheck extends Check {
    static final Class<IllegalArgumentException> ARGUMENT = IllegalArgumentException.class;
    static final Class<IllegalStateException> STATE = IllegalStateException.class;
    static final Class<IndexOutOfBoundsException> INDEX = IndexOutOfBoundsException.class;

    /** Makes a mechanism, each time the same. */
    interface Start {
        CoinMechanism made();
    }

    /** One call of a mechanism. */
    interface Ask {
        Object of(CoinMechanism x);
    }

    /** One call of a mechanism with a number that is tried at its bounds. */
    interface AskWith {
        Object of(CoinMechanism x, int number);
    }

    void insertAll(CoinMechanism x, int... kinds) {
        for (int kind : kinds) {
            due("insert(" + kind + ")", x.insert(kind), 0);
        }
    }

    void dueCoins(CoinMechanism x, int what, int... want) {
        for (int kind = 0; kind < want.length; kind++) {
            due("coins(" + kind + ", " + what + ")", x.coins(kind, what), want[kind]);
        }
    }

    void dueParts(CoinMechanism x, int amount, int... want) {
        int sum = 0;
        for (int kind = 0; kind < want.length; kind++) {
            due("part(" + amount + ", " + kind + ")", x.part(amount, kind), want[kind]);
            sum += want[kind];
        }
        due("fewest(" + amount + ")", x.fewest(amount), sum);
    }

    void dueNoWay(CoinMechanism x, int amount, int kinds) {
        for (int kind = 0; kind < kinds; kind++) {
            due("part(" + amount + ", " + kind + ")", x.part(amount, kind), -1);
        }
        due("fewest(" + amount + ")", x.fewest(amount), -1);
    }

    /** All ten counters; those that are not given are 0. */
    void dueAudit(CoinMechanism x, long... want) {
        for (int what = 0; what < 10; what++) {
            due("audit(" + what + ")", x.audit(what), what < want.length ? want[what] : 0L);
        }
    }

    /** All that is in the escrow, and that there is no more. */
    void dueEscrow(CoinMechanism x, int... want) {
        for (int index = 0; index < want.length; index++) {
            due("escrow(" + index + ")", x.escrow(index), want[index]);
        }
        dueThrow("escrow(" + want.length + ")", INDEX, () -> x.escrow(want.length));
    }

    void dueProduct(CoinMechanism x, int product, int price, int stock) {
        due("product(" + product + ", false)", x.product(product, false), price);
        due("product(" + product + ", true)", x.product(product, true), stock);
    }

    /** The call throws, and the mechanism then tells and does what its twin without the call does. */
    void refused(String call, Class<? extends RuntimeException> want, Start start, Ask ask) {
        CoinMechanism x = start.made();
        dueThrow(call, want, () -> ask.of(x));
        dueTwin(call, x, start.made());
    }

    /** Refused with every number next to least and most, and far away; the call's text has # for the number. */
    void refusedOutside(String call, Class<? extends RuntimeException> want, int least, int most, Start start, AskWith ask) {
        int[] outside = {least - 1, most + 1, most + 2, -1000, 1_000_000, 1 << 16, Integer.MIN_VALUE, Integer.MAX_VALUE};
        for (int number : outside) {
            refused(call.replace("#", String.valueOf(number)), want, start, x -> ask.of(x, number));
        }
    }

    /** The call is answered, and the mechanism then tells and does what its twin without the call does. */
    void unchanged(String call, Object want, Start start, Ask ask) {
        CoinMechanism x = start.made();
        due(call, ask.of(x), want);
        dueTwin(call, x, start.made());
    }

    private void dueTwin(String call, CoinMechanism x, CoinMechanism twin) {
        List<String> got = Tale.of(x);
        List<String> want = Tale.of(twin);
        due("how long the tale is after " + call, got.size(), want.size());
        for (int i = 0; i < Math.min(got.size(), want.size()); i++) {
            due("after " + call + ", the tale's line " + i, got.get(i), want.get(i));
        }
    }
}
