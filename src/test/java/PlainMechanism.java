import java.util.ArrayList;
import java.util.List;

/** The document once more, written as its words go and with another way to find a payment, to compare with. */
final class PlainMechanism {
    private static final class Kind {
        int value;
        int capacity;
        int tube;
        int box;
        int paid;
        boolean on = true;
    }

    private final List<Kind> kinds = new ArrayList<>();
    private final List<int[]> products = new ArrayList<>();
    private final List<Integer> escrow = new ArrayList<>();
    private final long[] audit = new long[10];
    private int limit = 1000;
    private int[] sale = null;

    private Kind kindAt(int kind) {
        if (kind < 0 || kind >= kinds.size()) {
            throw new IndexOutOfBoundsException();
        }
        return kinds.get(kind);
    }

    private int[] productAt(int product) {
        if (product < 0 || product >= products.size()) {
            throw new IndexOutOfBoundsException();
        }
        return products.get(product);
    }

    private static void between(int number, int least, int most) {
        if (number < least || number > most) {
            throw new IllegalArgumentException();
        }
    }

    int addKind(int value, int capacity) {
        between(value, 1, 500);
        between(capacity, 0, 60);
        if (kinds.size() == 8 || kinds.stream().anyMatch(k -> k.value == value)) {
            throw new IllegalStateException();
        }
        Kind k = new Kind();
        k.value = value;
        k.capacity = capacity;
        kinds.add(k);
        return kinds.size() - 1;
    }

    int fill(int kind, int many) {
        Kind k = kindAt(kind);
        between(many, 0, 60);
        int left = many;
        while (left > 0 && k.tube < k.capacity) {
            k.tube++;
            left--;
            audit[4] += k.value;
        }
        return left;
    }

    int take(int kind, int many) {
        Kind k = kindAt(kind);
        between(many, 0, 60);
        int taken = 0;
        while (taken < many && k.tube > 0) {
            k.tube--;
            taken++;
            audit[5] += k.value;
        }
        return taken;
    }

    int emptyBox() {
        int sum = 0;
        for (Kind k : kinds) {
            sum += k.box * k.value;
            k.box = 0;
        }
        audit[6] += sum;
        return sum;
    }

    boolean accept(int kind, boolean isOn) {
        Kind k = kindAt(kind);
        boolean before = k.on;
        k.on = isOn;
        return before;
    }

    int setLimit(int newLimit) {
        between(newLimit, 0, 2000);
        int before = limit;
        limit = newLimit;
        return before;
    }

    int addProduct(int price, int stock) {
        between(price, 1, 2000);
        between(stock, 0, 99);
        if (products.size() == 10) {
            throw new IllegalStateException();
        }
        products.add(new int[] {price, stock});
        return products.size() - 1;
    }

    int setProduct(int product, int price, int stock) {
        int[] p = productAt(product);
        between(price, 1, 2000);
        between(stock, 0, 99);
        int before = p[0];
        p[0] = price;
        p[1] = stock;
        return before;
    }

    int product(int product, boolean isStock) {
        return productAt(product)[isStock ? 1 : 0];
    }

    int insert(int kind) {
        Kind k = kindAt(kind);
        if (!k.on) {
            return 1;
        }
        if (escrow.size() == 12) {
            return 2;
        }
        if (credit() + k.value > limit) {
            return 3;
        }
        escrow.add(kind);
        audit[0] += k.value;
        return 0;
    }

    int cancel() {
        int sum = credit();
        escrow.clear();
        audit[1] += sum;
        return sum;
    }

    int buy(int product) {
        int[] p = productAt(product);
        if (p[1] == 0) {
            return 1;
        }
        int change = credit() - p[0];
        if (change < 0) {
            return 2;
        }
        List<int[]> saved = new ArrayList<>();
        for (Kind k : kinds) {
            saved.add(new int[] {k.tube, k.box});
        }
        for (int kind : escrow) {
            Kind k = kinds.get(kind);
            if (k.tube < k.capacity) {
                k.tube++;
            } else {
                k.box++;
            }
        }
        int[] way = way(change);
        if (way == null) {
            for (int i = 0; i < kinds.size(); i++) {
                kinds.get(i).tube = saved.get(i)[0];
                kinds.get(i).box = saved.get(i)[1];
            }
            return 3;
        }
        escrow.clear();
        payOut(way);
        p[1]--;
        sale = new int[] {product, p[0]};
        audit[2] += change;
        audit[7] += p[0];
        audit[8]++;
        audit[9] += change == 0 ? 1 : 0;
        return 0;
    }

    private void payOut(int[] way) {
        for (int i = 0; i < kinds.size(); i++) {
            kinds.get(i).tube -= way[i];
            kinds.get(i).paid = way[i];
        }
    }

    boolean refund() {
        if (sale == null) {
            throw new IllegalStateException();
        }
        int[] way = way(sale[1]);
        if (way == null) {
            return false;
        }
        payOut(way);
        int[] p = products.get(sale[0]);
        if (p[1] < 99) {
            p[1]++;
        }
        audit[3] += sale[1];
        sale = null;
        return true;
    }

    int credit() {
        int sum = 0;
        for (int kind : escrow) {
            sum += kinds.get(kind).value;
        }
        return sum;
    }

    int escrow(int index) {
        if (index < 0 || index >= escrow.size()) {
            throw new IndexOutOfBoundsException();
        }
        return escrow.get(index);
    }

    int coins(int kind, int what) {
        Kind k = kindAt(kind);
        if (what < 0 || what > 3) {
            throw new IndexOutOfBoundsException();
        }
        return new int[] {k.value, k.tube, k.box, k.paid}[what];
    }

    int fewest(int amount) {
        between(amount, 0, 2000);
        int[] way = way(amount);
        if (way == null) {
            return -1;
        }
        int sum = 0;
        for (int many : way) {
            sum += many;
        }
        return sum;
    }

    int part(int amount, int kind) {
        between(amount, 0, 2000);
        kindAt(kind);
        int[] way = way(amount);
        return way == null ? -1 : way[kind];
    }

    int below(int amount) {
        between(amount, 0, 2000);
        boolean[] can = canBePaid();
        int found = amount;
        while (!can[found]) {
            found--;
        }
        return found;
    }

    int gaps(int amount) {
        between(amount, 0, 2000);
        if (kinds.isEmpty()) {
            return 0;
        }
        boolean[] can = canBePaid();
        int many = 0;
        for (int a = unit(); a <= amount; a += unit()) {
            many += can[a] ? 0 : 1;
        }
        return many;
    }

    int unit() {
        int unit = 0;
        for (Kind k : kinds) {
            int a = k.value;
            while (a != 0) {
                int rest = unit % a;
                unit = a;
                a = rest;
            }
        }
        return unit;
    }

    boolean lamp() {
        boolean[] can = canBePaid();
        for (int[] p : products) {
            for (Kind k : kinds) {
                int sum = 0;
                while (sum < p[0]) {
                    sum += k.value;
                }
                if (p[1] > 0 && k.on && !can[sum - p[0]]) {
                    return true;
                }
            }
        }
        return false;
    }

    long audit(int what) {
        if (what < 0 || what > 9) {
            throw new IndexOutOfBoundsException();
        }
        return audit[what];
    }

    double exactShare() {
        return audit[8] == 0 ? 1 : (double) audit[9] / audit[8];
    }

    long digest() {
        List<Long> numbers = new ArrayList<>();
        numbers.add((long) kinds.size());
        for (int i = 0; i < kinds.size(); i++) {
            for (int what = 0; what < 4; what++) {
                numbers.add((long) coins(i, what));
            }
            numbers.add(kinds.get(i).on ? 1L : 0L);
        }
        numbers.add((long) limit);
        numbers.add((long) products.size());
        for (int[] p : products) {
            numbers.add((long) p[0]);
            numbers.add((long) p[1]);
        }
        numbers.add((long) escrow.size());
        for (int kind : escrow) {
            numbers.add((long) kind);
        }
        for (long a : audit) {
            numbers.add(a);
        }
        long d = 181;
        for (long x : numbers) {
            d = d * 31 + x;
        }
        return d;
    }

    private boolean[] canBePaid() {
        boolean[] can = new boolean[2001];
        can[0] = true;
        for (Kind k : kinds) {
            boolean[] next = new boolean[2001];
            for (int a = 0; a <= 2000; a++) {
                for (int many = 0; many <= k.tube && many * k.value <= a; many++) {
                    next[a] |= can[a - many * k.value];
                }
            }
            can = next;
        }
        return can;
    }

    /** How many coins of each kind are paid for an amount; null if it cannot be paid. */
    private int[] way(int amount) {
        List<Kind> order = new ArrayList<>(kinds);
        order.sort((a, b) -> b.value - a.value);
        int none = 1_000_000;
        // need[i][a]: the fewest coins of the kinds from order i on that are a together
        int[][] need = new int[order.size() + 1][amount + 1];
        java.util.Arrays.fill(need[order.size()], 1, amount + 1, none);
        for (int i = order.size() - 1; i >= 0; i--) {
            Kind k = order.get(i);
            for (int a = 0; a <= amount; a++) {
                need[i][a] = none;
                for (int many = 0; many <= k.tube && many * k.value <= a; many++) {
                    need[i][a] = Math.min(need[i][a], many + need[i + 1][a - many * k.value]);
                }
            }
        }
        if (need[0][amount] >= none) {
            return null;
        }
        int[] way = new int[kinds.size()];
        int left = amount;
        for (int i = 0; i < order.size(); i++) {
            Kind k = order.get(i);
            int many = Math.min(k.tube, left / k.value);
            while (many + need[i + 1][left - many * k.value] != need[i][left]) {
                many--;
            }
            way[kinds.indexOf(k)] = many;
            left -= many * k.value;
        }
        return way;
    }
}
