/** The edges that the document names for what can be paid: its Description (Paying) and promises 18 to 23. */
public final class PayingEdgesTest {
    private static final Class<IllegalArgumentException> ARGUMENT = MachineCheck.ARGUMENT;
    private static final Class<IndexOutOfBoundsException> INDEX = MachineCheck.INDEX;
    private static final MachineCheck CHECK = new MachineCheck();

    public static void main(String[] args) {
        CHECK.run(
            PayingEdgesTest::nothingCanAlwaysBePaid,
            PayingEdgesTest::justThisValue,
            PayingEdgesTest::fromTheTubesAlone,
            PayingEdgesTest::asFewAsCanBe,
            PayingEdgesTest::mostOfTheGreatestValue,
            PayingEdgesTest::thenOfTheNextValue,
            PayingEdgesTest::andSoOn,
            PayingEdgesTest::allTubesFull,
            PayingEdgesTest::fewestAmount0To2000,
            PayingEdgesTest::fewestThatCannotBe,
            PayingEdgesTest::partAmount0To2000,
            PayingEdgesTest::partOfNoSuchKind,
            PayingEdgesTest::partThatCannotBe,
            PayingEdgesTest::belowAmount0To2000,
            PayingEdgesTest::belowNotGreater,
            PayingEdgesTest::belowWithNothing,
            PayingEdgesTest::gapsAmount0To2000,
            PayingEdgesTest::gapsFrom1ToThisOne,
            PayingEdgesTest::gapsAreMultiplesOfTheUnit,
            PayingEdgesTest::gapsWithoutKinds,
            PayingEdgesTest::unitWithoutKinds,
            PayingEdgesTest::unitOfAllKinds,
            PayingEdgesTest::lampWithoutProductOrKind,
            PayingEdgesTest::lampWithStockGreaterThan0,
            PayingEdgesTest::lampWithAKindThatIsAccepted,
            PayingEdgesTest::lampWithThePriceOrMore,
            PayingEdgesTest::lampOfTheLastProductAndKind);
        CHECK.end();
    }

    private static CoinMechanism with(int value, int coins) {
        return Machines.withTubes(new int[] {value}, new int[] {coins});
    }

    /** Tubes for 20, 50, 30 with 3, 1, 2 coins: all together are 170. */
    private static CoinMechanism upTo170() {
        return Machines.withTubes(new int[] {20, 50, 30}, new int[] {3, 1, 2});
    }

    // ---- the Description: paying

    private static void nothingCanAlwaysBePaid() {
        CHECK.at("Description: 0 can always be paid, with no coin");
        MachineCheck.Start[] starts = {Machines::fresh, Machines::small, Machines::inUse, Machines::full};
        int[] kinds = {0, 3, 4, 8};
        for (int i = 0; i < starts.length; i++) {
            CHECK.unchanged("fewest(0)", 0, starts[i], x -> x.fewest(0));
            CHECK.unchanged("below(0)", 0, starts[i], x -> x.below(0));
            CHECK.unchanged("gaps(0)", 0, starts[i], x -> x.gaps(0));
            CHECK.dueParts(starts[i].made(), 0, new int[kinds[i]]);
        }
    }

    private static void justThisValue() {
        CHECK.at("Description: the coins in the tubes, or some of them, have just this value together");
        CoinMechanism x = upTo170();
        CHECK.dueParts(x, 20, 1, 0, 0);
        CHECK.dueNoWay(x, 19, 3);
        CHECK.dueNoWay(x, 21, 3);
        CHECK.dueNoWay(x, 10, 3);
        CHECK.dueParts(x, 170, 3, 1, 2);
        CHECK.dueNoWay(x, 169, 3);
        CHECK.dueNoWay(x, 171, 3);
        CHECK.dueNoWay(x, 180, 3);
        CHECK.dueNoWay(x, 190, 3);
        CHECK.dueParts(x, 150, 2, 1, 2);
        CHECK.dueNoWay(x, 160, 3);
        CoinMechanism y = with(2, 60);
        for (int amount = 0; amount <= 124; amount++) {
            int many = amount % 2 == 0 && amount <= 120 ? amount / 2 : -1;
            CHECK.due("fewest(" + amount + ")", y.fewest(amount), many);
            CHECK.due("part(" + amount + ", 0)", y.part(amount, 0), many);
        }
    }

    private static void fromTheTubesAlone() {
        CHECK.at("18 to 23: what can be paid now, from the tubes alone");
        CoinMechanism x = new CoinMechanism();
        x.addKind(10, 0);
        x.addKind(30, 5);
        x.addProduct(10, 9);
        CHECK.insertAll(x, 0);
        CHECK.due("buy(0)", x.buy(0), 0);
        CHECK.insertAll(x, 0, 1);
        CHECK.dueNoWay(x, 10, 2);
        CHECK.dueNoWay(x, 30, 2);
        CHECK.due("below(2000): box and escrow do not count", x.below(2000), 0);
        CHECK.due("gaps(40)", x.gaps(40), 4);
        CHECK.due("lamp(): 20 cannot be paid", x.lamp(), true);
        x.fill(1, 1);
        x.accept(1, false);
        CHECK.dueParts(x, 30, 0, 1);
        CHECK.due("below(2000), not accepted, but in the tube", x.below(2000), 30);
        CHECK.due("gaps(40), not accepted, but in the tube", x.gaps(40), 3);
        x.take(1, 1);
        CHECK.dueNoWay(x, 30, 2);
        CHECK.due("below(2000) after take", x.below(2000), 0);
    }

    private static void asFewAsCanBe() {
        CHECK.at("Description: it is paid with as few coins as can be");
        CHECK.dueParts(Machines.withTubes(new int[] {25, 10, 1}, new int[] {2, 4, 9}), 30, 0, 3, 0);
        CHECK.dueParts(Machines.withTubes(new int[] {25, 10, 1}, new int[] {2, 2, 9}), 30, 1, 0, 5);
        CHECK.dueParts(Machines.withTubes(new int[] {50, 20}, new int[] {1, 4}), 80, 0, 4);
        CHECK.dueParts(Machines.withTubes(new int[] {50, 20}, new int[] {2, 4}), 100, 2, 0);
        CHECK.dueParts(Machines.withTubes(new int[] {50, 20}, new int[] {1, 5}), 100, 0, 5);
        CHECK.dueNoWay(Machines.withTubes(new int[] {50, 20}, new int[] {1, 4}), 100, 2);
        CHECK.dueParts(Machines.withTubes(new int[] {499, 500, 1}, new int[] {4, 3, 60}), 1996, 4, 0, 0);
        CHECK.dueParts(Machines.withTubes(new int[] {499, 500, 1}, new int[] {3, 3, 60}), 1997, 3, 1, 0);
    }

    private static void mostOfTheGreatestValue() {
        CHECK.at("Description: the one with the most coins of the kind with the greatest value");
        // 15 = 7 + 4 + 4 = 6 + 6 + 3, in each order of the kinds.
        CHECK.dueParts(Machines.withTubes(new int[] {7, 6, 4, 3}, new int[] {9, 9, 9, 9}), 15, 1, 0, 2, 0);
        CHECK.dueParts(Machines.withTubes(new int[] {3, 4, 6, 7}, new int[] {9, 9, 9, 9}), 15, 0, 2, 0, 1);
        CHECK.dueParts(Machines.withTubes(new int[] {6, 3, 7, 4}, new int[] {9, 9, 9, 9}), 15, 0, 0, 1, 2);
        CHECK.dueParts(Machines.withTubes(new int[] {6, 3, 7, 4}, new int[] {9, 9, 0, 9}), 15, 2, 1, 0, 0);
        CHECK.dueParts(Machines.withTubes(new int[] {6, 3, 7, 4}, new int[] {9, 9, 9, 1}), 15, 2, 1, 0, 0);
        // 4 = 3 + 1 = 2 + 2, and with the greatest values that there are
        CHECK.dueParts(Machines.withTubes(new int[] {2, 1, 3}, new int[] {60, 60, 60}), 4, 0, 1, 1);
        CHECK.dueParts(Machines.withTubes(new int[] {499, 500, 498}, new int[] {9, 9, 9}), 998, 0, 1, 1);
        CHECK.dueParts(Machines.withTubes(new int[] {499, 500, 498}, new int[] {9, 9, 0}), 998, 2, 0, 0);
    }

    private static void thenOfTheNextValue() {
        CHECK.at("Description: if that is the same, of the kind with the next value");
        // 35 = 20 + 7 + 4 + 4 = 20 + 6 + 6 + 3
        CHECK.dueParts(Machines.withTubes(new int[] {20, 7, 6, 4, 3}, new int[] {1, 9, 9, 9, 9}), 35, 1, 1, 0, 2, 0);
        CHECK.dueParts(Machines.withTubes(new int[] {3, 4, 6, 7, 20}, new int[] {9, 9, 9, 9, 1}), 35, 0, 2, 0, 1, 1);
        CHECK.dueParts(Machines.withTubes(new int[] {6, 20, 3, 7, 4}, new int[] {9, 1, 9, 9, 9}), 35, 0, 1, 0, 1, 2);
        CHECK.dueParts(Machines.withTubes(new int[] {6, 20, 3, 7, 4}, new int[] {9, 1, 9, 9, 1}), 35, 2, 1, 1, 0, 0);
    }

    private static void andSoOn() {
        CHECK.at("Description: and so on");
        // 15 as above behind two, three and four kinds of which each way has one coin
        CHECK.dueParts(Machines.withTubes(new int[] {40, 20, 7, 6, 4, 3}, new int[] {1, 1, 9, 9, 9, 9}),
            75, 1, 1, 1, 0, 2, 0);
        CHECK.dueParts(Machines.withTubes(new int[] {80, 3, 40, 4, 20, 6, 7}, new int[] {1, 9, 1, 9, 1, 9, 9}),
            155, 1, 0, 1, 2, 1, 0, 1);
        CHECK.dueParts(Machines.withTubes(new int[] {3, 4, 6, 7, 20, 40, 80, 160}, new int[] {9, 9, 9, 9, 1, 1, 1, 1}),
            315, 0, 2, 0, 1, 1, 1, 1, 1);
        // 4 = 3 + 1 = 2 + 2 behind five kinds: the sixth of eight decides
        CHECK.dueParts(Machines.withTubes(new int[] {2, 500, 1, 300, 3, 150, 80, 40}, new int[] {9, 1, 9, 1, 9, 1, 1, 1}),
            1074, 0, 1, 1, 1, 1, 1, 1, 1);
        CHECK.dueParts(Machines.withTubes(new int[] {2, 500, 1, 300, 3, 150, 80, 40}, new int[] {9, 1, 9, 1, 0, 1, 1, 1}),
            1074, 2, 1, 0, 1, 0, 1, 1, 1);
    }

    private static void allTubesFull() {
        CHECK.at("Description: everything full, 60 coins of each of 8 kinds");
        CoinMechanism x = Machines.withTubes(new int[] {1, 2, 3, 4, 5, 6, 7, 8}, new int[] {60, 60, 60, 60, 60, 60, 60, 60});
        // All are 2160 together; the most coins that are 160 stay.
        CHECK.dueParts(x, 2000, 0, 10, 60, 60, 60, 60, 60, 60);
        CHECK.dueParts(x, 480, 0, 0, 0, 0, 0, 0, 0, 60);
        CHECK.dueParts(x, 481, 1, 0, 0, 0, 0, 0, 0, 60);
        CHECK.dueParts(x, 1, 1, 0, 0, 0, 0, 0, 0, 0);
        CHECK.due("below(2000)", x.below(2000), 2000);
        CHECK.due("gaps(2000)", x.gaps(2000), 0);
        CoinMechanism y = Machines.withTubes(new int[] {7, 6, 5, 4, 3, 2, 1, 8}, new int[] {60, 60, 60, 60, 60, 60, 60, 40});
        CHECK.dueParts(y, 2000, 60, 60, 60, 60, 60, 60, 60, 40);
        CoinMechanism z = Machines.withTubes(new int[] {7, 6, 5, 4, 3, 2, 1, 8}, new int[] {60, 60, 60, 60, 60, 60, 60, 39});
        CHECK.dueNoWay(z, 2000, 8);
        CHECK.due("below(2000): all of them", z.below(2000), 1992);
        CHECK.due("gaps(2000)", z.gaps(2000), 8);
    }

    // ---- promise 18

    private static void fewestAmount0To2000() {
        CHECK.at("18: if amount is not 0 to 2000");
        CHECK.refusedOutside("fewest(#)", ARGUMENT, 0, 2000, Machines::fresh, (x, a) -> x.fewest(a));
        CHECK.refusedOutside("fewest(#)", ARGUMENT, 0, 2000, Machines::inUse, (x, a) -> x.fewest(a));
        CHECK.refusedOutside("fewest(#)", ARGUMENT, 0, 2000, Machines::full, (x, a) -> x.fewest(a));
        CHECK.unchanged("fewest(2000)", 25, Machines::full, x -> x.fewest(2000));
        CHECK.due("fewest(2000)", with(500, 4).fewest(2000), 4);
        CHECK.due("fewest(1999)", with(1999 / 5, 60).fewest(1999), -1);
        CHECK.due("fewest(1)", with(1, 1).fewest(1), 1);
    }

    private static void fewestThatCannotBe() {
        CHECK.at("18: -1 if it cannot be");
        CHECK.unchanged("fewest(1) without kinds", -1, Machines::fresh, x -> x.fewest(1));
        CHECK.unchanged("fewest(2000) without kinds", -1, Machines::fresh, x -> x.fewest(2000));
        CHECK.unchanged("fewest(10), empty tubes", -1, Machines::small, x -> x.fewest(10));
        CHECK.unchanged("fewest(2000)", -1, Machines::inUse, x -> x.fewest(2000));
        CHECK.due("fewest(2000), three of four", with(500, 3).fewest(2000), -1);
        CHECK.due("fewest(2), one of two", with(1, 1).fewest(2), -1);
        CHECK.due("fewest(61), sixty of 61", with(1, 60).fewest(61), -1);
        CHECK.due("fewest(60)", with(1, 60).fewest(60), 60);
    }

    // ---- promise 19

    private static void partAmount0To2000() {
        CHECK.at("19: if amount is not 0 to 2000");
        CHECK.refusedOutside("part(#, 0)", ARGUMENT, 0, 2000, Machines::inUse, (x, a) -> x.part(a, 0));
        CHECK.refusedOutside("part(#, 7)", ARGUMENT, 0, 2000, Machines::full, (x, a) -> x.part(a, 7));
        CHECK.refusedOutside("part(#, 0), no such kind too", ARGUMENT, 0, 2000, Machines::fresh, (x, a) -> x.part(a, 0));
        CHECK.refusedOutside("part(#, 4), no such kind too", ARGUMENT, 0, 2000, Machines::inUse, (x, a) -> x.part(a, 4));
        CHECK.refusedOutside("part(#, -1), no such kind too", ARGUMENT, 0, 2000, Machines::full, (x, a) -> x.part(a, -1));
        CHECK.unchanged("part(2000, 0)", 25, Machines::full, x -> x.part(2000, 0));
        CHECK.unchanged("part(2000, 7)", 0, Machines::full, x -> x.part(2000, 7));
        CHECK.unchanged("part(0, 0)", 0, Machines::full, x -> x.part(0, 0));
    }

    private static void partOfNoSuchKind() {
        CHECK.at("19: part throws if there is no such kind");
        for (int amount : new int[] {0, 7, 2000}) {
            String call = "part(" + amount + ", #)";
            CHECK.refusedOutside(call, INDEX, 0, -1, Machines::fresh, (x, k) -> x.part(amount, k));
            CHECK.refusedOutside(call, INDEX, 0, 3, Machines::inUse, (x, k) -> x.part(amount, k));
            CHECK.refusedOutside(call, INDEX, 0, 7, Machines::full, (x, k) -> x.part(amount, k));
        }
    }

    private static void partThatCannotBe() {
        CHECK.at("19: -1 if it cannot be paid");
        CHECK.dueNoWay(Machines.small(), 1, 3);
        CHECK.dueNoWay(Machines.small(), 5, 3);
        CHECK.dueNoWay(Machines.inUse(), 2000, 4);
        CHECK.dueNoWay(Machines.full(), 5, 8);
        CHECK.unchanged("part(7, 3)", -1, Machines::inUse, x -> x.part(7, 3));
        CHECK.unchanged("part(10, 3): none of this kind", 0, Machines::inUse, x -> x.part(10, 3));
    }

    // ---- promise 20

    private static void belowAmount0To2000() {
        CHECK.at("20: if amount is not 0 to 2000");
        CHECK.refusedOutside("below(#)", ARGUMENT, 0, 2000, Machines::fresh, (x, a) -> x.below(a));
        CHECK.refusedOutside("below(#)", ARGUMENT, 0, 2000, Machines::inUse, (x, a) -> x.below(a));
        CHECK.refusedOutside("below(#)", ARGUMENT, 0, 2000, Machines::full, (x, a) -> x.below(a));
        CHECK.unchanged("below(2000)", 2000, Machines::full, x -> x.below(2000));
        CHECK.unchanged("below(1999)", 1990, Machines::full, x -> x.below(1999));
    }

    private static void belowNotGreater() {
        CHECK.at("20: the greatest amount, not greater than this one, that can be paid");
        CoinMechanism x = upTo170();
        int[][] pairs = {{1, 0}, {19, 0}, {20, 20}, {21, 20}, {29, 20}, {30, 30}, {39, 30}, {40, 40}, {149, 140},
            {150, 150}, {151, 150}, {160, 150}, {169, 150}, {170, 170}, {171, 170}, {1999, 170}, {2000, 170}};
        for (int[] pair : pairs) {
            CHECK.due("below(" + pair[0] + ")", x.below(pair[0]), pair[1]);
        }
        CHECK.due("below(1999)", with(500, 60).below(1999), 1500);
        CHECK.due("below(2000)", with(500, 60).below(2000), 2000);
        CHECK.due("below(1)", with(1, 1).below(1), 1);
        CHECK.due("below(2)", with(1, 1).below(2), 1);
    }

    private static void belowWithNothing() {
        CHECK.at("20: no coins there");
        CHECK.unchanged("below(2000) without kinds", 0, Machines::fresh, x -> x.below(2000));
        CHECK.unchanged("below(1) without kinds", 0, Machines::fresh, x -> x.below(1));
        CHECK.unchanged("below(2000), empty tubes", 0, Machines::small, x -> x.below(2000));
        CHECK.due("below(499)", with(500, 60).below(499), 0);
    }

    // ---- promise 21

    private static void gapsAmount0To2000() {
        CHECK.at("21: if amount is not 0 to 2000");
        CHECK.refusedOutside("gaps(#), no kinds", ARGUMENT, 0, 2000, Machines::fresh, (x, a) -> x.gaps(a));
        CHECK.refusedOutside("gaps(#)", ARGUMENT, 0, 2000, Machines::inUse, (x, a) -> x.gaps(a));
        CHECK.refusedOutside("gaps(#)", ARGUMENT, 0, 2000, Machines::full, (x, a) -> x.gaps(a));
        CHECK.unchanged("gaps(2000)", 0, Machines::full, x -> x.gaps(2000));
        CHECK.due("gaps(2000), empty", with(1, 0).gaps(2000), 2000);
        CHECK.due("gaps(1999), empty", with(1, 0).gaps(1999), 1999);
    }

    private static void gapsFrom1ToThisOne() {
        CHECK.at("21: amounts from 1 on, not greater than this one");
        CoinMechanism x = with(1, 0);
        CHECK.due("gaps(0)", x.gaps(0), 0);
        CHECK.due("gaps(1)", x.gaps(1), 1);
        CHECK.due("gaps(2)", x.gaps(2), 2);
        x.fill(0, 1);
        CHECK.due("gaps(1)", x.gaps(1), 0);
        CHECK.due("gaps(2)", x.gaps(2), 1);
        CHECK.due("gaps(60) with 59 of 1", with(1, 59).gaps(60), 1);
        CHECK.due("gaps(60) with 60 of 1", with(1, 60).gaps(60), 0);
        CHECK.due("gaps(61) with 60 of 1", with(1, 60).gaps(61), 1);
    }

    private static void gapsAreMultiplesOfTheUnit() {
        CHECK.at("21: are multiples of the unit, and cannot be paid");
        CoinMechanism x = upTo170();
        int[][] pairs = {{9, 0}, {10, 1}, {19, 1}, {20, 1}, {159, 1}, {160, 2}, {169, 2}, {170, 2}, {179, 2}, {180, 3},
            {1999, 184}, {2000, 185}};
        for (int[] pair : pairs) {
            CHECK.due("gaps(" + pair[0] + ")", x.gaps(pair[0]), pair[1]);
        }
        CHECK.due("gaps(499)", with(500, 0).gaps(499), 0);
        CHECK.due("gaps(500)", with(500, 0).gaps(500), 1);
        CHECK.due("gaps(2000)", with(500, 0).gaps(2000), 4);
        CHECK.due("gaps(2000)", with(500, 3).gaps(2000), 1);
        CHECK.due("gaps(2000)", with(500, 4).gaps(2000), 0);
        x.addKind(15, 0);
        CHECK.due("gaps(20): the unit is 5, of an empty tube too", x.gaps(20), 3);
    }

    private static void gapsWithoutKinds() {
        CHECK.at("21: 0 if there are no kinds");
        CHECK.unchanged("gaps(0)", 0, Machines::fresh, x -> x.gaps(0));
        CHECK.unchanged("gaps(1)", 0, Machines::fresh, x -> x.gaps(1));
        CHECK.unchanged("gaps(2000)", 0, Machines::fresh, x -> x.gaps(2000));
    }

    // ---- promise 22

    private static void unitWithoutKinds() {
        CHECK.at("22: 0 if there are no kinds");
        CHECK.unchanged("unit()", 0, Machines::fresh, x -> x.unit());
        CoinMechanism x = new CoinMechanism();
        x.addProduct(10, 10);
        CHECK.due("unit()", x.unit(), 0);
        CHECK.dueThrow("addKind(501, 1)", ARGUMENT, () -> x.addKind(501, 1));
        CHECK.due("unit()", x.unit(), 0);
    }

    private static void unitOfAllKinds() {
        CHECK.at("22: the greatest number of which the values of all kinds are multiples");
        for (int value : new int[] {1, 2, 3, 4, 251, 499, 500}) {
            CHECK.due("unit() of " + value + " alone", with(value, 0).unit(), value);
        }
        CHECK.due("unit() of 500, 250", Machines.withTubes(new int[] {500, 250}, new int[2]).unit(), 250);
        CHECK.due("unit() of 500, 499", Machines.withTubes(new int[] {500, 499}, new int[2]).unit(), 1);
        CHECK.due("unit() of 6, 10, 15", Machines.withTubes(new int[] {6, 10, 15}, new int[3]).unit(), 1);
        CHECK.due("unit() of 4, 6", Machines.withTubes(new int[] {4, 6}, new int[2]).unit(), 2);
        CHECK.due("unit() of 12, 18, 30", Machines.withTubes(new int[] {12, 18, 30}, new int[3]).unit(), 6);
        CHECK.unchanged("unit() of 8 kinds", 10, Machines::full, x -> x.unit());
        CHECK.unchanged("unit(), 100 not accepted", 5, Machines::inUse, x -> x.unit());
        CoinMechanism y = Machines.inUse();
        y.accept(2, false);
        CHECK.due("unit(), 5 not accepted", y.unit(), 5);
        CoinMechanism x = Machines.withTubes(new int[] {480, 400, 320, 240, 160, 80, 40}, new int[7]);
        CHECK.due("unit() of 7 kinds", x.unit(), 40);
        x.addKind(36, 0);
        CHECK.due("unit(): the last kind counts", x.unit(), 4);
    }

    // ---- promise 23

    private static void lampWithoutProductOrKind() {
        CHECK.at("23: whether there are a product .. and a kind");
        CHECK.unchanged("lamp(), neither", false, Machines::fresh, x -> x.lamp());
        CHECK.due("lamp(), no product", with(500, 0).lamp(), false);
        CoinMechanism x = new CoinMechanism();
        x.addProduct(1, 99);
        CHECK.due("lamp(), no kind", x.lamp(), false);
        x.addKind(500, 0);
        CHECK.due("lamp(), both", x.lamp(), true);
    }

    private static CoinMechanism selling(CoinMechanism x, int price, int stock) {
        x.addProduct(price, stock);
        return x;
    }

    private static void lampWithStockGreaterThan0() {
        CHECK.at("23: a product with a stock greater than 0");
        CHECK.due("lamp(), stock 0", selling(with(50, 0), 35, 0).lamp(), false);
        CHECK.due("lamp(), stock 1", selling(with(50, 0), 35, 1).lamp(), true);
        CHECK.due("lamp(), stock 99", selling(with(50, 0), 35, 99).lamp(), true);
        CoinMechanism x = selling(Machines.withTubes(new int[] {50, 15, 35}, new int[] {0, 1, 0}), 35, 1);
        x.accept(1, false);
        CHECK.due("lamp(), 15 can be paid", x.lamp(), false);
        CHECK.insertAll(x, 0);
        CHECK.due("buy(0), the last one", x.buy(0), 0);
        CHECK.due("lamp(), sold out", x.lamp(), false);
        x.setProduct(0, 35, 1);
        CHECK.due("lamp(), 15 was paid", x.lamp(), true);
    }

    private static void lampWithAKindThatIsAccepted() {
        CHECK.at("23: a kind that is accepted");
        CoinMechanism x = selling(with(50, 60), 35, 1);
        CHECK.due("lamp()", x.lamp(), true);
        x.accept(0, false);
        CHECK.due("lamp(), none accepted", x.lamp(), false);
        x.addKind(35, 0);
        CHECK.due("lamp(), one that is exact", x.lamp(), false);
        x.addKind(36, 0);
        CHECK.due("lamp(), one that is 1 too much", x.lamp(), true);
        x.accept(2, false);
        CHECK.due("lamp()", x.lamp(), false);
        x.accept(0, true);
        CHECK.due("lamp()", x.lamp(), true);
        x.addKind(15, 60);
        x.fill(3, 1);
        x.accept(3, false);
        CHECK.due("lamp(), paid with a kind that is not accepted", x.lamp(), false);
    }

    private static void lampWithThePriceOrMore() {
        CHECK.at("23: what the fewest coins of this kind alone that have the price, or more, have more than the price");
        // price, value, and what is too much
        int[][] cases = {{1, 500, 499}, {499, 500, 1}, {500, 500, 0}, {501, 500, 499}, {999, 500, 1}, {1000, 500, 0},
            {1001, 500, 499}, {2000, 500, 0}, {1999, 500, 1}, {2000, 499, 495}, {2000, 3, 1}, {2000, 1, 0}, {1, 1, 0},
            {1, 2, 1}, {1501, 500, 499}, {1999, 400, 1}};
        for (int[] c : cases) {
            String prices = "lamp(), price " + c[0] + ", value " + c[1];
            CHECK.due(prices + ", empty", selling(with(c[1], 0), c[0], 1).lamp(), c[2] != 0);
            if (c[2] != 0) {
                CHECK.due(prices + ", that can be paid", payingJust(c[2], c[1], c[0]).lamp(), false);
                CHECK.due(prices + ", 1 more can be paid", payingJust(c[2] + 1, c[1], c[0]).lamp(), true);
            }
        }
        CoinMechanism x = selling(Machines.withTubes(new int[] {50, 15}, new int[] {0, 0}), 35, 1);
        CHECK.insertAll(x, 1);
        x.accept(1, false);
        CHECK.due("lamp(): the 15 in the escrow does not pay", x.lamp(), true);
        x.fill(1, 1);
        CHECK.due("lamp(): the 15 in the tube does", x.lamp(), false);
        CHECK.unchanged("lamp()", true, Machines::small, y -> y.lamp());
        CHECK.unchanged("lamp()", false, Machines::inUse, y -> y.lamp());
        CHECK.unchanged("lamp()", false, Machines::full, y -> y.lamp());
    }

    /** Only the kind of this value is accepted; a tube of another kind can pay just this amount. */
    private static CoinMechanism payingJust(int amount, int value, int price) {
        CoinMechanism x = selling(with(value, 0), price, 1);
        if (amount == value) {
            x.fill(0, 1);
        } else {
            x.addKind(amount, 1);
            x.fill(1, 1);
            x.accept(1, false);
        }
        return x;
    }

    private static void lampOfTheLastProductAndKind() {
        CHECK.at("23: every product and every kind");
        for (int kind = 0; kind < 8; kind++) {
            for (int product = 0; product < 10; product++) {
                CoinMechanism x = exactButFor(kind, product);
                String which = "lamp(), kind " + kind + ", product " + product;
                CHECK.due(which, x.lamp(), true);
                x.accept(kind, false);
                CHECK.due(which + ", not accepted", x.lamp(), false);
                x.accept(kind, true);
                x.setProduct(product, 384, 0);
                CHECK.due(which + ", sold out", x.lamp(), false);
            }
        }
    }

    /** Every kind pays every price exactly, but for this kind (256) and this product (384): 128 too much. */
    private static CoinMechanism exactButFor(int kind, int product) {
        CoinMechanism x = new CoinMechanism();
        for (int k = 0; k < 8; k++) {
            x.addKind(k == kind ? 256 : 1 << k, 0);
        }
        for (int p = 0; p < 10; p++) {
            x.addProduct(p == product ? 384 : 1280, 1);
        }
        return x;
    }
}
