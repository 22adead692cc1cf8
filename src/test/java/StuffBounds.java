/** What lies at floors, tenants and rents (promises 15 to 19, 34 to 38): each boundary on both sides. */
public final class StuffBounds extends Bench {
    private static void hasAt(FractionLift x, int stuff, int up, int low, long wantUp, long wantLow) {
        fraction("has(" + stuff + ", " + up + "/" + low + ")", x.has(stuff, up, low, 0), x.has(stuff, up, low, 1), wantUp,
                wantLow);
    }

    private static void lyingThere() {
        sentence("A STUFF at a FLOOR: as it HAS, if it was told; between two told ones next to it: by how far it is from "
                + "both, straight; beyond the last one as that has; 0 if none was told.");
        FractionLift x = told("floor 3 has 10 99 7;floor 1 has 20 0 7;floor 1/2 has 0 0 7;");
        hasAt(x, 0, 1, 2, 0, 1);
        hasAt(x, 0, 1, 1, 20, 1);
        hasAt(x, 0, 3, 1, 10, 1);
        hasAt(x, 0, 3, 4, 10, 1);
        hasAt(x, 0, 500001, 1000000, 1, 25000);
        hasAt(x, 0, 999999, 1000000, 499999, 25000);
        hasAt(x, 0, 1000000, 999999, 19999975, 999999);
        hasAt(x, 0, 4, 3, 55, 3);
        hasAt(x, 1, 3, 4, 0, 1);
        hasAt(x, 1, 3, 2, 99, 4);
        hasAt(x, 2, 2, 3, 7, 1);
        hasAt(x, 0, 499999, 1000000, 0, 1);
        hasAt(x, 0, 0, 1, 0, 1);
        hasAt(x, 0, 300001, 100000, 10, 1);
        hasAt(x, 1, 300001, 100000, 99, 1);
        hasAt(x, 1, 299999, 100000, 19799901, 200000);
        hasAt(x, 0, 4, 1, 10, 1);
        hasAt(x, 1, 4, 1, 99, 1);
        FractionLift one = told("floor 2 has 3 4 5;");
        hasAt(one, 0, 0, 1, 3, 1);
        hasAt(one, 1, 2, 1, 4, 1);
        hasAt(one, 2, 4, 1, 5, 1);
        FractionLift none = new FractionLift();
        hasAt(none, 0, 1, 2, 0, 1);
        hasAt(none, 2, 4, 1, 0, 1);
        sentence("A STUFF at a FLOOR, what 0: upper, 1: lower number. -2: the STUFF, what; -3.");
        refused("has(-1, ..)", -2, y -> y.has(-1, 6, 1, 0));
        refused("has(3, ..)", -2, y -> y.has(3, 6, 1, 0));
        refused("has what", -2, y -> y.has(0, 1, 0, -1));
        refused("has what", -2, y -> y.has(0, 1, 0, 2));
        refused("has floor", -3, y -> y.has(0, 6, 1, 0));
        refused("has floor", -3, y -> y.has(2, 1, 0, 1));
        due("has at TOP", fullHouse().has(0, 5, 1, 0), 10);
    }

    private static void whereAt(FractionLift x, int stuff, int n, long wantUp, long wantLow) {
        fraction("where(" + stuff + ", " + n + ")", x.where(stuff, n, 0), x.where(stuff, n, 1), wantUp, wantLow);
    }

    private static void where() {
        sentence("The least FRACTION from 0 to TOP at which there is just n (0 to 99) of a STUFF, what 0: upper, 1: lower "
                + "number. NONE: at none; -2; -3: n.");
        FractionLift x = told("floor 1 has 10 99 0;floor 3 has 20 98 99;floor 7/2 has 9 0 99;");
        whereAt(x, 0, 10, 0, 1);
        whereAt(x, 0, 11, 6, 5);
        whereAt(x, 0, 19, 14, 5);
        whereAt(x, 0, 20, 3, 1);
        whereAt(x, 0, 21, NONE, NONE);
        whereAt(x, 0, 9, 7, 2);
        whereAt(x, 0, 8, NONE, NONE);
        whereAt(x, 1, 99, 0, 1);
        whereAt(x, 1, 98, 3, 1);
        whereAt(x, 1, 1, 685, 196);
        whereAt(x, 1, 0, 7, 2);
        whereAt(x, 2, 0, 0, 1);
        whereAt(x, 2, 1, 101, 99);
        whereAt(x, 2, 98, 295, 99);
        whereAt(x, 2, 99, 3, 1);
        FractionLift none = new FractionLift();
        whereAt(none, 1, 0, 0, 1);
        whereAt(none, 1, 1, NONE, NONE);
        FractionLift one = told("floor 2 has 5 0 0;");
        whereAt(one, 0, 4, NONE, NONE);
        whereAt(one, 0, 5, 0, 1);
        whereAt(one, 0, 6, NONE, NONE);
        FractionLift eight = floors(8);
        whereAt(eight, 0, 7, 7, 1);
        whereAt(eight, 0, 8, NONE, NONE);
        whereAt(eight, 1, 1, 0, 1);
        whereAt(eight, 2, 0, NONE, NONE);
        refused("where stuff", -2, y -> y.where(-1, 100, 0));
        refused("where stuff", -2, y -> y.where(3, 100, 0));
        refused("where what", -2, y -> y.where(0, -1, -1));
        refused("where what", -2, y -> y.where(0, -1, 2));
        refused("where n", -3, y -> y.where(0, -1, 0));
        refused("where n", -3, y -> y.where(0, 100, 1));
        refused("where n", -3, y -> y.where(2, Integer.MAX_VALUE, 1));
        refused("where none", NONE, y -> y.where(0, 99, 1));
    }

    private static void alikeAt(FractionLift x, int stuff, int other, long wantUp, long wantLow) {
        fraction("alike(" + stuff + ", " + other + ")", x.alike(stuff, other, 0), x.alike(stuff, other, 1), wantUp, wantLow);
        fraction("alike(" + other + ", " + stuff + ")", x.alike(other, stuff, 0), x.alike(other, stuff, 1), wantUp, wantLow);
    }

    private static void alike() {
        sentence("The least FRACTION from 0 to TOP at which two STUFFS are alike, what 0: upper, 1: lower number. NONE: at "
                + "none; -2: a STUFF, both one, what.");
        FractionLift x = told("floor 1 has 9 0 9;floor 2 has 0 9 9;floor 3 has 0 8 8;");
        alikeAt(x, 0, 1, 3, 2);
        alikeAt(x, 0, 2, 0, 1);
        alikeAt(x, 1, 2, 2, 1);
        alikeAt(told("floor 1 has 9 8 0;floor 2 has 9 8 0;"), 0, 1, NONE, NONE);
        alikeAt(told("floor 1 has 9 8 0;floor 2 has 9 9 0;"), 0, 1, 2, 1);
        alikeAt(told("floor 1 has 9 8 0;floor 2 has 8 9 0;"), 0, 1, 3, 2);
        alikeAt(told("floor 4 has 1 1 0;"), 0, 1, 0, 1);
        alikeAt(told("floor 4 has 1 0 0;"), 0, 1, NONE, NONE);
        alikeAt(new FractionLift(), 1, 2, 0, 1);
        FractionLift eight = floors(8);
        alikeAt(eight, 0, 1, 1, 1);
        alikeAt(eight, 1, 2, 0, 1);
        // no floor: 1/99 + 99/197 of (97/98 - 1/99)
        alikeAt(told("floor 1/99 has 99 0 0;floor 97/98 has 0 98 0;"), 0, 1, 960301, 1911294);
        refused("alike stuff", -2, y -> y.alike(-1, 0, 0));
        refused("alike stuff", -2, y -> y.alike(3, 0, 0));
        refused("alike stuff", -2, y -> y.alike(0, -1, 0));
        refused("alike stuff", -2, y -> y.alike(0, 3, 0));
        refused("alike, both one", -2, y -> y.alike(2, 2, 0));
        refused("alike what", -2, y -> y.alike(0, 1, -1));
        refused("alike what", -2, y -> y.alike(0, 1, 2));
    }

    private static void most() {
        sentence("The told floor that HAS most of a STUFF, the lowest. NONE: none was told; -2.");
        FractionLift x = told("floor 3 has 9 1 5;floor 1 has 9 2 6;floor 2 has 8 2 5;");
        due("most(0)", x.most(0), 1);
        due("most(1)", x.most(1), 1);
        due("most(2)", x.most(2), 1);
        due("most(0), told later and lower", told("floor 3 has 0 0 0;floor 2 has 0 0 0;").most(0), 1);
        due("most(0), told first and higher", told("floor 3 has 1 0 0;floor 2 has 0 0 0;").most(0), 0);
        due("most of none", new FractionLift().most(0), NONE);
        refused("most(-1)", -2, y -> y.most(-1));
        refused("most(3)", -2, y -> y.most(3));
        due("most(3) of none", new FractionLift().most(3), -2);
    }

    // ---- floors told by a call

    private static FractionLift floors(int n) {
        StringBuilder text = new StringBuilder("top 9;button:x+1;tenant 1/2;");
        for (int k = 0; k < n; k++) {
            text.append("floor ").append(k).append(" has ").append(k).append(" 1 1;");
        }
        return told(text.toString());
    }

    private static void telling() {
        sentence("A floor is told at a FLOOR: it HAS STUFFS as they are there, cut: its number. -3 (also a lower number "
                + "above 99); -4: there are 8; -5: one was told there.");
        FractionLift x = told("floor 3 has 10 99 7;floor 1 has 20 0 8;");
        due("tells(5/3)", x.tells(10, 6), 2);
        int[] want = {5, 3, 16, 33, 7, 1};
        for (int what = 0; what < 6; what++) {
            due("floor(2, " + what + ")", x.floor(2, what), want[what]);
        }
        due("floor(0, 5)", x.floor(0, 5), 2);
        due("count(8)", x.count(8), 2);
        fraction("has as it was cut", x.has(0, 5, 3, 0), x.has(0, 5, 3, 1), 16, 1);
        FractionLift none = new FractionLift();
        due("tells(0)", none.tells(0, 1), 0);
        due("floor(0, 2)", none.floor(0, 2), 0);
        due("tells(TOP)", none.tells(4, 1), 1);
        due("tells(1/99)", none.tells(1, 99), 2);
        due("tells(2/198)", none.tells(2, 198), -5);
        due("tells(4/198)", none.tells(4, 198), 3);
        refused("tells(1/100)", -3, y -> y.tells(1, 100));
        refused("tells(2/200)", -3, y -> y.tells(2, 200));
        due("tells(100/200)", new FractionLift().tells(100, 200), 0);
        refused("tells(6/1)", -3, y -> y.tells(6, 1));
        refused("tells(-1/1)", -3, y -> y.tells(-1, 1));
        refused("tells(1/0)", -3, y -> y.tells(1, 0));
        refused("tells(3/1)", -5, y -> y.tells(3, 1));
        refused("tells(2/4)", -5, y -> y.tells(2, 4));
        due("tells, 7 are told", floors(7).tells(8, 1), 7);
        refused(() -> floors(8), "tells, 8 are told", -4, y -> y.tells(8, 1));
        refused(() -> floors(8), "tells one of 8", -4, y -> y.tells(7, 1));
        refused(() -> floors(8), "tells none", -3, y -> y.tells(10, 1));
        refused(() -> floors(8), "tells none", -3, y -> y.tells(1, 100));
        refused(() -> floors(7), "tells one of 7", -5, y -> y.tells(6, 1));
        sentence("Tenants, told floors are at FLOORS with lower numbers up to 99.");
        due("moves(0, 1/99)", floors(7).moves(0, 1, 99), -1);
        refused(() -> floors(7), "moves(0, 1/100)", -3, y -> y.moves(0, 1, 100));
    }

    // ---- rents

    private static void rents() {
        sentence("RENT of a tenant: STUFF 0 at its FLOOR.");
        FractionLift one = told("floor 0 has 5 6 7;floor 2 has 8 9 6;tenant 1;");
        fraction("rent(0)", one.rent(0, 0), one.rent(0, 1), 13, 2);
        due("tells", one.tells(1, 1), 2);
        fraction("rent(0), as the floor there was cut", one.rent(0, 0), one.rent(0, 1), 6, 1);
        sentence("RENT of a tenant, what 0: upper, 1: lower number. -2.");
        FractionLift x = told("floor 0 has 0 9 9;floor 3 has 2 9 9;tenant 1;tenant 1;tenant 4/2;tenant 4;tenant 0;");
        long[][] rents = {{2, 3}, {2, 3}, {4, 3}, {2, 1}, {0, 1}};
        for (int t = 0; t < 5; t++) {
            fraction("rent(" + t + ")", x.rent(t, 0), x.rent(t, 1), rents[t][0], rents[t][1]);
        }
        due("rent(5, 0)", x.rent(5, 0), -2);
        refused("rent(-1, 0)", -2, y -> y.rent(-1, 0));
        refused("rent(3, 0)", -2, y -> y.rent(3, 0));
        refused("rent(0, -1)", -2, y -> y.rent(0, -1));
        refused("rent(0, 2)", -2, y -> y.rent(0, 2));
        sentence("All RENTS together, each in hundredths, cut.");
        due("rents()", x.rents(), 66 + 66 + 133 + 200);
        due("rents() of none", new FractionLift().rents(), 0);
        due("rents() of the most", told("floor 1 has 99 0 0;" + times(6, "tenant 1;")).rents(), 6 * 9900);
        sentence("The tenant with the highest RENT, the first. NONE: none.");
        due("richest()", x.richest(), 3);
        due("richest() of like ones", told("floor 1 has 3 0 0;tenant 1;tenant 2;tenant 3;").richest(), 0);
        due("richest() of like ones", told("floor 1 has 3 0 0;floor 2 has 4 0 0;tenant 1;tenant 2;tenant 3;").richest(), 1);
        due("richest() by little", told("floor 0 has 0 0 0;floor 1 has 1 0 0;tenant 97/99;tenant 97/98;").richest(), 1);
        due("richest() without rent", told("tenant 1;").richest(), 0);
        due("richest() of none", new FractionLift().richest(), NONE);
    }

    private static void moving() {
        sentence("A tenant MOVES to a FLOOR: 1 if its RENT is more, 0 as much, NONE less. -2; -3 (also a lower number above "
                + "99).");
        FractionLift x = told("floor 0 has 0 9 9;floor 3 has 2 9 9;tenant 1;tenant 4;");
        due("moves(0, 100/99)", x.moves(0, 100, 99), 1);
        fraction("tenant(0)", x.tenant(0, 0), x.tenant(0, 1), 100, 99);
        due("moves(0, 100/99)", x.moves(0, 100, 99), 0);
        due("moves(0, 99/98)", x.moves(0, 99, 98), 1);
        due("moves(0, 98/97)", x.moves(0, 98, 97), 1);
        due("moves(0, 99/98)", x.moves(0, 99, 98), NONE);
        due("moves(1, 3)", x.moves(1, 3, 1), 0);
        due("moves(1, 296/99)", x.moves(1, 296, 99), NONE);
        due("moves(1, 4)", x.moves(1, 400, 100), 1);
        fraction("tenant(1)", x.tenant(1, 0), x.tenant(1, 1), 4, 1);
        refused("moves(-1, ..)", -2, y -> y.moves(-1, 6, 1));
        refused("moves(3, ..)", -2, y -> y.moves(3, 6, 1));
        refused("moves(0, 6/1)", -3, y -> y.moves(0, 6, 1));
        refused("moves(0, 1/0)", -3, y -> y.moves(0, 1, 0));
        refused("moves(0, 1/100)", -3, y -> y.moves(0, 1, 100));
        refused("moves(0, 3/300)", -3, y -> y.moves(0, 3, 300));
        due("moves(2, 5)", fullHouse().moves(2, 5, 1), 1);
    }

    // ---- the fairest floor

    private static void isFairest(String text, int t, long up, long low, long farUp, long farLow) {
        FractionLift x = told(text);
        fraction("fairest(" + t + ") of " + text, x.fairest(t, 0), x.fairest(t, 1), up, low);
        fraction("how far, of " + text, x.fairest(t, 2), x.fairest(t, 3), farUp, farLow);
    }

    private static void fairest() {
        sentence("FAIREST for a tenant: of FLOORS with a lower number up to 12 that which is nearest to all other tenants "
                + "together, the least.");
        isFairest("tenant 4;tenant 1/12;", 0, 1, 12, 0, 1);
        isFairest("tenant 4;tenant 1/13;", 0, 1, 12, 1, 156);
        isFairest("tenant 4;tenant 0;", 0, 0, 1, 0, 1);
        isFairest("tenant 0;tenant 4;", 0, 4, 1, 0, 1);
        isFairest("top 9;tenant 0;tenant 890/99;", 0, 9, 1, 1, 99);
        isFairest("tenant 0;tenant 47/12;", 0, 47, 12, 0, 1);
        isFairest("tenant 0;tenant 2/5;", 0, 2, 5, 0, 1);
        isFairest("tenant 0;tenant 25/7;", 0, 25, 7, 0, 1);
        isFairest("tenant 5/11;tenant 4;", 1, 5, 11, 0, 1);
        isFairest("tenant 2/97;tenant 4;", 1, 0, 1, 2, 97);
        isFairest("tenant 2/97;tenant 4;tenant 3/97;", 1, 0, 1, 5, 97);
        isFairest("tenant 4;tenant 1;tenant 2;", 0, 1, 1, 1, 1);
        isFairest("tenant 4;tenant 1;tenant 2;tenant 3;", 0, 2, 1, 2, 1);
        isFairest("tenant 2;tenant 1/24;", 0, 0, 1, 1, 24);
        isFairest("tenant 2;tenant 4/97;", 0, 0, 1, 4, 97);
        isFairest("tenant 2;tenant 5/97;", 0, 1, 12, 37, 1164);
        isFairest("top 9;tenant 0;tenant 95/97;tenant 88/89;tenant 82/83;tenant 78/79;tenant 72/73;", 0, 1, 1,
                290332214L, 4132280413L);
        sentence("FAIREST, what 0: upper, 1: lower number, 2: how far from all others together: upper, 3: lower number. -2; "
                + "NONE: there is no other tenant.");
        due("fairest of two", told("tenant 1;tenant 1;").fairest(1, 0), 1);
        refused(() -> told("tenant 1;"), "fairest(0, 0)", NONE, y -> y.fairest(0, 0));
        refused(() -> told("tenant 1;"), "fairest(1, 0)", -2, y -> y.fairest(1, 0));
        refused(() -> told("tenant 1;"), "fairest(0, 4)", -2, y -> y.fairest(0, 4));
        refused("fairest(-1, 0)", -2, y -> y.fairest(-1, 0));
        refused("fairest(3, 0)", -2, y -> y.fairest(3, 0));
        refused("fairest(0, -1)", -2, y -> y.fairest(0, -1));
        refused("fairest(0, 4)", -2, y -> y.fairest(0, 4));
        due("fairest of none", new FractionLift().fairest(0, 0), -2);
    }

    public static void main(String[] args) {
        lyingThere();
        where();
        alike();
        most();
        telling();
        rents();
        moving();
        fairest();
        finish();
    }
}
