/** Addresses, neighbours, counting and parts (promises 28 to 33): each boundary on both sides. */
public final class AddressBounds extends Bench {
    // ---- addresses

    private static void isAddress(FractionLift x, int up, int low, int... want) {
        String call = "address(" + up + "/" + low + ")";
        due(call, x.address(up, low, NONE), want.length);
        for (int k = 0; k < want.length; k++) {
            due(call + ", " + k, x.address(up, low, k), want[k]);
        }
        due(call + " beyond the last", x.address(up, low, want.length), NONE);
    }

    private static void addresses() {
        FractionLift x = new FractionLift();
        sentence("ADDRESS of a FLOOR: its continued fraction: whole numbers a, b, c .. (a and 1 by (b and 1 by (c ..))), the "
                + "last one above 1 (but for whole FLOORS).");
        isAddress(x, 0, 1, 0);
        isAddress(x, 0, 9, 0);
        isAddress(x, 1, 1, 1);
        isAddress(x, 8, 2, 4);
        isAddress(x, 3, 2, 1, 2);
        isAddress(x, 1, 2, 0, 2);
        isAddress(x, 2, 3, 0, 1, 2);
        isAddress(x, 355, 113, 3, 7, 16);
        isAddress(x, 1, 1000000, 0, 1000000);
        isAddress(x, 1000000, 999999, 1, 999999);
        isAddress(x, 514229, 832040, 0, 1, 1, 1, 1, 1, 1, 1, 1, 1, 1, 1, 1, 1, 1, 1, 1, 1, 1, 1, 1, 1, 1, 1, 1, 1, 1, 1, 2);
        sentence("ADDRESS, k NONE: how many numbers, else the k-th. NONE: not so many; -3.");
        due("address(4/1, 1)", x.address(4, 1, 1), NONE);
        due("address(4/1, greatest)", x.address(4, 1, Integer.MAX_VALUE), NONE);
        due("address(4/1, -2)", x.address(4, 1, -2), NONE);
        due("address(4/1, least)", x.address(4, 1, Integer.MIN_VALUE), NONE);
        refused("address floor", -3, y -> y.address(6, 1, NONE));
        refused("address floor", -3, y -> y.address(1, 0, 0));
        refused("address floor", -3, y -> y.address(-1, 1, 99));
        due("address at TOP", fullHouse().address(5, 1, 0), 5);
    }

    // ---- neighbours

    private static void isNeighbour(FractionLift x, int up, int low, int d, boolean above, int wantUp, int wantLow) {
        fraction("neighbour(" + up + "/" + low + ", " + d + ", " + above + ")", x.neighbour(up, low, d, above, 0),
                x.neighbour(up, low, d, above, 1), wantUp, wantLow);
    }

    private static void neighbours() {
        FractionLift x = new FractionLift();
        sentence("NEIGHBOURS by d: the next FLOOR below, above with a lower number up to d.");
        isNeighbour(x, 1, 3, 7, true, 2, 5);
        isNeighbour(x, 1, 3, 7, false, 2, 7);
        isNeighbour(x, 1, 3, 2, true, 1, 2);
        isNeighbour(x, 1, 3, 2, false, 0, 1);
        isNeighbour(x, 355, 113, 112, true, 22, 7);
        isNeighbour(x, 355, 113, 106, false, 333, 106);
        isNeighbour(x, 355, 113, 105, false, 311, 99);
        isNeighbour(x, 999999, 1000000, 1, true, 1, 1);
        isNeighbour(x, 999999, 1000000, 1, false, 0, 1);
        isNeighbour(x, 2, 1, 1, true, 3, 1);
        isNeighbour(x, 2, 1, 1, false, 1, 1);
        isNeighbour(x, 3, 1, 1, true, 4, 1);
        isNeighbour(x, 1, 1, 1, false, 0, 1);
        sentence("A NEIGHBOUR by d (1 to 1000), above or below, what 0: upper, 1: lower number. NONE: there is none; -2; -3: d, "
                + "the FLOOR.");
        isNeighbour(x, 0, 1, 1, true, 1, 1);
        isNeighbour(x, 0, 1, 999, true, 1, 999);
        isNeighbour(x, 0, 1, 1000, true, 1, 1000);
        isNeighbour(x, 4, 1, 1000, false, 3999, 1000);
        isNeighbour(x, 0, 1, 1000, false, NONE, NONE);
        isNeighbour(x, 4, 1, 1000, true, NONE, NONE);
        isNeighbour(x, 1, 1000000, 1000, false, 0, 1);
        isNeighbour(x, 999999, 250000, 1000, true, 4, 1);
        refused("neighbour d", -3, y -> y.neighbour(1, 1, 0, true, 0));
        refused("neighbour d", -3, y -> y.neighbour(1, 1, 1001, true, 0));
        refused("neighbour d", -3, y -> y.neighbour(1, 1, -1, false, 1));
        refused("neighbour floor", -3, y -> y.neighbour(6, 1, 5, true, 0));
        refused("neighbour floor", -3, y -> y.neighbour(1, 0, 5, false, 0));
        refused("neighbour what", -2, y -> y.neighbour(6, 1, 0, true, -1));
        refused("neighbour what", -2, y -> y.neighbour(6, 1, 1001, true, 2));
        refused("neighbour none", NONE, y -> y.neighbour(5, 1, 5, true, 0));
        due("the code ahead of NONE", x.neighbour(0, 1, 0, false, 0), -3);
        due("the code ahead of NONE", x.neighbour(0, 1, 9, false, 2), -2);
    }

    // ---- the simplest

    private static void isSimplest(int up, int low, int otherUp, int otherLow, int wantUp, int wantLow) {
        FractionLift x = new FractionLift();
        String call = "simplest(" + up + "/" + low + ", " + otherUp + "/" + otherLow + ")";
        fraction(call, x.simplest(up, low, otherUp, otherLow, 0), x.simplest(up, low, otherUp, otherLow, 1), wantUp, wantLow);
        fraction(call + " turned", x.simplest(otherUp, otherLow, up, low, 0), x.simplest(otherUp, otherLow, up, low, 1),
                wantUp, wantLow);
    }

    private static void simplest() {
        sentence("SIMPLEST between two unlike FLOORS (neither of them): with the least lower number, of like ones the least.");
        isSimplest(0, 1, 4, 1, 1, 1);
        isSimplest(0, 1, 2, 1, 1, 1);
        isSimplest(0, 1, 1, 1, 1, 2);
        isSimplest(1, 1, 2, 1, 3, 2);
        isSimplest(1, 2, 7, 2, 1, 1);
        isSimplest(1, 1, 3, 1, 2, 1);
        isSimplest(3, 2, 2, 1, 5, 3);
        isSimplest(3, 2, 201, 100, 2, 1);
        isSimplest(7, 5, 10, 7, 17, 12);
        isSimplest(1, 3, 1, 2, 2, 5);
        isSimplest(1, 1000000, 1, 999999, 2, 1999999);
        isSimplest(999998, 999999, 999999, 1000000, 1999997, 1999999);
        isSimplest(0, 1, 1, 1000000, 1, 1000001);
        isSimplest(0, 1, 1, 999999, 1, 1000000);
        sentence("SIMPLEST between two FLOORS, what 0: upper, 1: lower number. -2: what; -3: one of both is none, both are one.");
        refused("simplest what", -2, y -> y.simplest(6, 1, 1, 0, -1));
        refused("simplest what", -2, y -> y.simplest(1, 1, 1, 1, 2));
        refused("simplest floor", -3, y -> y.simplest(6, 1, 1, 1, 0));
        refused("simplest floor", -3, y -> y.simplest(1, 1, 6, 1, 0));
        refused("simplest floor", -3, y -> y.simplest(1, 0, 1, 1, 1));
        refused("simplest floor", -3, y -> y.simplest(1, 1, -1, 1, 1));
        refused("simplest of one", -3, y -> y.simplest(1, 2, 1, 2, 0));
        refused("simplest of one", -3, y -> y.simplest(1, 2, 2, 4, 0));
        due("simplest at TOP", fullHouse().simplest(5, 1, 4, 1, 0), 9);
    }

    // ---- counting

    private static void counting() {
        sentence("How many FLOORS there are with lower numbers up to d (1 to 200). -3.");
        FractionLift x = new FractionLift();
        int[] floors = {5, 9, 17, 25, 41};
        for (int d = 1; d <= floors.length; d++) {
            due("floors(" + d + ")", x.floors(d), floors[d - 1]);
        }
        due("floors(200)", x.floors(200), 48929);
        due("floors(200), top 9", told("top 9;").floors(200), 110089);
        due("floors(1), top 1", told("top 1;").floors(1), 2);
        refused("floors(0)", -3, y -> y.floors(0));
        refused("floors(-1)", -3, y -> y.floors(-1));
        refused("floors(201)", -3, y -> y.floors(201));
        sentence("How many of these are below a FLOOR. -3.");
        due("rank(0)", x.rank(0, 1, 200), 0);
        due("rank(1/1000000)", x.rank(1, 1000000, 200), 1);
        due("rank(1/201)", x.rank(1, 201, 200), 1);
        due("rank(1/200)", x.rank(1, 200, 200), 1);
        due("rank(1/199)", x.rank(1, 199, 200), 2);
        due("rank(1/2)", x.rank(2, 4, 200), 6116);
        due("rank(999999/1000000)", x.rank(999999, 1000000, 200), 12232);
        due("rank(1)", x.rank(1, 1, 200), 12232);
        due("rank(TOP)", x.rank(4, 1, 200), 48928);
        due("rank(TOP)", x.rank(4, 1, 1), 4);
        due("rank(7/2)", x.rank(7, 2, 1), 4);
        refused("rank d", -3, y -> y.rank(1, 1, 0));
        refused("rank d", -3, y -> y.rank(1, 1, 201));
        refused("rank floor", -3, y -> y.rank(6, 1, 1));
        refused("rank floor", -3, y -> y.rank(1, 0, 200));
        due("rank at TOP", fullHouse().rank(5, 1, 1), 5);
    }

    // ---- parts

    private static void areParts(FractionLift x, int up, int low, int... want) {
        String call = "parts(" + up + "/" + low + ")";
        due(call, x.parts(up, low, NONE), want.length);
        for (int k = 0; k < want.length; k++) {
            due(call + ", " + k, x.parts(up, low, k), want[k]);
        }
        due(call + " beyond the last", x.parts(up, low, want.length), NONE);
    }

    private static void parts() {
        sentence("PARTS: of what is above the whole floor, the greatest part 1 by n that is not more, then of what is left, and "
                + "so on.");
        FractionLift x = new FractionLift();
        areParts(x, 4, 5, 2, 4, 20);
        areParts(x, 9, 5, 2, 4, 20);
        areParts(x, 1, 2, 2);
        areParts(x, 7, 2, 2);
        areParts(x, 2, 3, 2, 6);
        areParts(x, 4, 17, 5, 29, 1233, 3039345);
        areParts(x, 1, 1000000, 1000000);
        areParts(x, 0, 1);
        areParts(x, 4, 1);
        sentence("-4: some n, or a lower number of what is left, is above 1,000,000,000.");
        areParts(x, 3016, 11391, 4, 68, 15492, 999993108);
        areParts(x, 804, 845, 2, 3, 9, 143, 23902, 999760905);
        // 6, 35, 3211 leave one whose lower number is 1,000,001,730
        for (int k : new int[] {NONE, 0, 1, 2, 3, 99, -2}) {
            refused("parts(290/1483, " + k + ")", -4, y -> y.parts(290, 1483, k));
        }
        refused("parts(2/999999)", -4, y -> y.parts(2, 999999, 0));
        areParts(x, 34279, 55417, 2, 9, 135, 21654, 999999765);
        areParts(x, 998501, 999000, 2, 3, 7, 43, 18447, 999999000);
        // every n would be below 1,000,000,000 here, but what is left on the way has a lower number above it:
        // 1,805,116,866 behind 2, 3, 7, 43 (then 5934, 902558433), and 1,000,000,092
        refused("parts(999126/999511)", -4, y -> y.parts(999126, 999511, NONE));
        refused("parts(999126/999511, 0)", -4, y -> y.parts(999126, 999511, 0));
        refused("parts(911626/915751)", -4, y -> y.parts(911626, 915751, NONE));
        sentence("PARTS, k NONE: how many, else the k-th n. NONE: not so many; -3: the FLOOR;");
        due("parts(1/2, -2)", x.parts(1, 2, -2), NONE);
        due("parts(1/2, least)", x.parts(1, 2, Integer.MIN_VALUE), NONE);
        due("parts(1/2, greatest)", x.parts(1, 2, Integer.MAX_VALUE), NONE);
        refused("parts floor", -3, y -> y.parts(6, 1, NONE));
        refused("parts floor", -3, y -> y.parts(1, 0, 0));
        due("parts at TOP", fullHouse().parts(5, 1, NONE), 0);
    }

    public static void main(String[] args) {
        addresses();
        neighbours();
        simplest();
        counting();
        parts();
        finish();
    }
}
