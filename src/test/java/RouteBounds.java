/** Where buttons lead (promises 20 to 27): each sentence that names a boundary, on both sides. */
public final class RouteBounds extends Bench {
    // ---- the fewest

    private static void fewestRow(FractionLift x, int up, int low, int... row) {
        due("fewest(" + up + "/" + low + ")", x.fewest(up, low, 0), row.length);
        for (int k = 0; k < 8; k++) {
            due("fewest(" + up + "/" + low + ", " + (10 + k) + ")", x.fewest(up, low, 10 + k), k < row.length ? row[k] : NONE);
        }
    }

    private static void fewestIs(FractionLift x, int up, int low, int want) {
        due("fewest(" + up + "/" + low + ")", x.fewest(up, low, 0), want);
        due("fewest(" + up + "/" + low + ", 10)", x.fewest(up, low, 10), want);
        due("fewest(" + up + "/" + low + ", 17)", x.fewest(up, low, 17), want);
    }

    private static void fewest() {
        sentence("FEWEST to a FLOOR: BUTTONS from AT, by 0, 1, 2 .. of them;");
        FractionLift x = told("button:x*2;button:x+1;button:x+2;at 1;");
        fewestRow(x, 1, 1);
        fewestRow(x, 2, 1, 0);
        fewestRow(x, 3, 1, 2);
        fewestRow(x, 4, 1, 0, 0);
        sentence("NONE, if there are no new ones, or 8 do not do;");
        fewestIs(x, 1, 2, NONE);
        fewestIs(told("button:x;"), 1, 1, NONE);
        fewestIs(told("button:x-1;"), 1, 1, NONE);
        fewestIs(new FractionLift(), 1, 1, NONE);
        fewestRow(new FractionLift(), 0, 1);
        FractionLift thirds = told("button:x+1/3;");
        fewestRow(thirds, 7, 3, 0, 0, 0, 0, 0, 0, 0);
        fewestRow(thirds, 8, 3, 0, 0, 0, 0, 0, 0, 0, 0);
        fewestIs(thirds, 3, 1, NONE);
        FractionLift asked = told("button:x-1;");
        due("leads(0, 3/1)", asked.leads(0, 3, 1, 0), 2);
        fewestIs(asked, 2, 1, NONE);
        sentence("its row: the first by numbers, of those that are fewest.");
        FractionLift like = told("button:x+2;button:x+1;button:x+1;button:x+2;");
        fewestRow(like, 1, 1, 1);
        fewestRow(like, 3, 1, 0, 1);
        fewestRow(like, 4, 1, 0, 0);
    }

    private static void spent() {
        sentence("behind each number that does not do: SPENT (-1000), if more than 2,000 FLOORS were met by then (AT, too);");
        // 792 floors are met by 5, 2000 by 6, 4784 by 7
        FractionLift just = told("button:x/2;button:x+1;button:x-8/9;button:x-1/2;button:x/3;button:x+4/3;at 1/11;");
        fewestRow(just, 1, 704, 0, 0, 0, 0, 0, 0);
        fewestRow(just, 1, 1408, 0, 0, 0, 0, 0, 0, 0);
        fewestIs(just, 1, 2816, SPENT);
        // 733 floors are met by 5, 2001 by 6, 4843 by 7
        FractionLift more = told("button:x+6/7;button:x/2+1;button:x+8/9;button:x/2;at 1/11;");
        fewestRow(more, 1, 704, 3, 3, 3, 3, 3, 3);
        fewestIs(more, 1, 1408, SPENT);
        // 1331 by 7, 2000 by 8
        FractionLift eight = told("top 1;button:x+183/999;button:x+230/999;button:x+203/999;button:x+435/999/999;"
                + "button:x+90/999;button:x+983/999/999;");
        fewestIs(eight, 1, 1000000, NONE);
        // 1253 by 7, 2001 by 8
        FractionLift over = told("top 1;button:x+399/999;button:x+40/999;button:x+360/999/999;button:x+263/999;"
                + "button:x+15/999/999;button:x+812/999/999;");
        fewestIs(over, 1, 1000000, SPENT);
        sentence("FEWEST, what 0: how many BUTTONS, 10 + k: the k-th one (NONE: not so many). SPENT; NONE; -2: what (10 to "
                + "17); -3.");
        for (int what : new int[] {Integer.MIN_VALUE, -1, 1, 9, 18, 20}) {
            refused("fewest what " + what, -2, y -> y.fewest(6, 1, what));
        }
        refused("fewest floor", -3, y -> y.fewest(6, 1, 0));
        refused("fewest floor", -3, y -> y.fewest(-1, 1, 17));
        refused("fewest floor", -3, y -> y.fewest(1, 0, 10));
        refused("fewest", 0, y -> y.fewest(23, 8, 0));
        due("the code ahead of SPENT", more.fewest(1, 1408, 9), -2);
        due("the code ahead of SPENT", more.fewest(5, 1, 0), -3);
        due("the code ahead of NONE", told("button:x+1/3;").fewest(3, 1, 18), -2);
    }

    // ---- so many floors

    /** All rows lead to floors of their own. */
    private static final String SEVENTHS = "button:x/7;button:(x+1)/7;button:(x+2)/7;button:(x+3)/7;button:(x+4)/7;"
            + "button:(x+5)/7;at 1/2;";

    private static void reach() {
        sentence("How many FLOORS n BUTTONS (0 to 5) lead to, just so many. -3.");
        FractionLift all = told(SEVENTHS);
        int rows = 1;
        for (int n = 0; n <= 5; n++) {
            due("reach(" + n + ")", all.reach(n), rows);
            rows *= 6;
        }
        FractionLift x = told("button:x+1;button:x+2;at 1;");
        int[] reach = {1, 2, 2, 1, 0, 0};
        for (int n = 0; n <= 5; n++) {
            due("reach(" + n + ")", x.reach(n), reach[n]);
        }
        FractionLift swing = told("button:4-x;at 1;");
        for (int n = 0; n <= 5; n++) {
            due("reach(" + n + "), there and back", swing.reach(n), 1);
            due("highest(" + n + "), there and back", swing.highest(n, 0), n % 2 == 0 ? 1 : 3);
        }
        refused("reach(-1)", -3, y -> y.reach(-1));
        refused("reach(6)", -3, y -> y.reach(6));
        sentence("The greatest FLOOR that n BUTTONS (0 to 5) lead to, what 0: upper, 1: lower number. NONE: none; -2; -3.");
        fraction("highest(0)", all.highest(0, 0), all.highest(0, 1), 1, 2);
        // 1/2 comes to 1/2 by 7, and five times 5 by 7: (1 + 10 * 2801) / (2 * 16807)
        fraction("highest(5)", all.highest(5, 0), all.highest(5, 1), 28011, 33614);
        fraction("highest(3)", x.highest(3, 0), x.highest(3, 1), 4, 1);
        fraction("highest(4)", x.highest(4, 0), x.highest(4, 1), NONE, NONE);
        FractionLift close = told("button:1/3;button:3/8;button:2/5;button:5/13;");
        fraction("highest(1)", close.highest(1, 0), close.highest(1, 1), 2, 5);
        FractionLift great = told("top 1;button:x/3;button:999*999/(999*999+1);button:996*999/(999*999-2);button:1/2;");
        fraction("highest(1)", great.highest(1, 0), great.highest(1, 1), 998001, 998002);
        refused("highest what", -2, y -> y.highest(6, -1));
        refused("highest what", -2, y -> y.highest(-1, 2));
        refused("highest n", -3, y -> y.highest(-1, 0));
        refused("highest n", -3, y -> y.highest(6, 1));
        due("the code ahead of NONE", new FractionLift().highest(1, 2), -2);
    }

    // ---- twins

    private static void twinsAre(FractionLift x, int[] first, int[] second) {
        due("twins(0)", x.twins(0), first.length);
        for (int k = 0; k < 5; k++) {
            due("twins(" + (10 + k) + ")", x.twins(10 + k), k < first.length ? first[k] : NONE);
            due("twins(" + (20 + k) + ")", x.twins(20 + k), k < second.length ? second[k] : NONE);
        }
    }

    private static void twins() {
        sentence("TWINS: the least n (1 to 5) so that two unlike ROWS of n lead to one FLOOR; the first such two: the second "
                + "one first by numbers, then the first one.");
        twinsAre(told("button:x;button:x;"), new int[] {0}, new int[] {1});
        twinsAre(told("button:x+1;button:x+2;button:x+2;button:x+1;"), new int[] {1}, new int[] {2});
        twinsAre(told("button:x+1;button:x/2;button:x+1/2;"), new int[] {0, 1}, new int[] {1, 2});
        // both come to 1/4 of 1/97 and 3/2 of 1/5
        twinsAre(told("button:x/2;button:x+1/5;at 1/97;"), new int[] {0, 1, 1, 1, 0}, new int[] {1, 1, 0, 0, 1});
        // there are some by 6: one fifth and three ninths of it are as much as four thirds of it
        noTwins(told("button:x/3;button:x+1/5;at 1/97;"));
        noTwins(told("button:x+1;"));
        noTwins(new FractionLift());
        FractionLift asked = told("button:x-1;button:x-2;");
        due("leads(0, 3/1)", asked.leads(0, 3, 1, 0), 2);
        noTwins(asked);
        noTwins(told(SEVENTHS));
        sentence("TWINS, what 0: n, 10 + k: the k-th BUTTON of the first of both, 20 + k: of the other (NONE: not so many). "
                + "NONE: none to 5; -2 (k to 4).");
        for (int what : new int[] {-1, 1, 9, 15, 19, 25, Integer.MAX_VALUE}) {
            refused("twins what " + what, -2, y -> y.twins(what));
            due("the code ahead of NONE", new FractionLift().twins(what), -2);
        }
    }

    private static void noTwins(FractionLift x) {
        due("twins(0)", x.twins(0), NONE);
        for (int k = 0; k < 5; k++) {
            due("twins(" + (10 + k) + ")", x.twins(10 + k), NONE);
            due("twins(" + (20 + k) + ")", x.twins(20 + k), NONE);
        }
    }

    // ---- remainders

    private static void remainders() {
        sentence("of a FRACTION the upper number times what the lower one is inverse to; it has none, if lower one and m have "
                + "a common factor.");
        FractionLift half = told("at 1/2;");
        due("rests(3)", half.rests(3), 1 << 2);
        due("rests(9)", half.rests(9), 1 << 5);
        due("rests(2)", half.rests(2), 3);
        due("rests(6)", half.rests(6), 63);
        due("never(3, 1/3)", half.never(3, 1, 3), 0);
        due("never(3, 1/4)", half.never(3, 1, 4), 1);
        due("never(3, 2/1)", half.never(3, 2, 1), 0);
        due("never(4, 1/1)", half.never(4, 1, 1), 0);
        sentence("From AT's, BUTTON by BUTTON, as SUMS by m; if AT has none, or on the way something is divided by what has no "
                + "inverse, that one leads to all;");
        FractionLift x = told("button:x*4;button:x*2;at 1;");
        due("rests(7)", x.rests(7), 1 << 1 | 1 << 2 | 1 << 4);
        due("rests(30)", x.rests(30), 1 << 1 | 1 << 2 | 1 << 4 | 1 << 8 | 1 << 16);
        due("without buttons", told("at 3;").rests(2), 1 << 1);
        due("0 by 1", new FractionLift().rests(30), 1);
        due("top", told("top 9;button:top;at 1;").rests(5), 1 << 1 | 1 << 4);
        due("below 0", told("button:0-x;at 1;").rests(5), 1 << 1 | 1 << 4);
        due("a great N", told("button:x+999;at 1;").rests(27), (1 << 1));
        due("divided by 3", told("button:x/3;at 1;").rests(4), 1 << 1 | 1 << 3);
        due("divided by 2", told("button:x/2;at 1;").rests(4), 15);
        due("divided by 0", told("button:1/(x-1);at 1;").rests(4), 15);
        due("the second one is", told("button:1/(x-2);button:x+1;at 1;").rests(5), 31);
        due("inside", told("button:(1/(2-x)-1)*0;at 0;").rests(9), 1);
        due("inside", told("button:(1/(3-x)-1)*0;at 0;").rests(9), 511);
        FractionLift y = told("button:x/2;at 1/3;");
        due("AT has none", y.rests(9), 511);
        due("AT has one", y.rests(11), 2046);
    }

    /** 1 is among what 48/49, 54/77 .. above it are by all m but 30; m with 7, 11, 13, 17, 19 have no inverse. */
    private static final String ONLY_BY_30 = "button:97/49;button:131/77;button:243/143;button:32/17;"
            + "button:(999+371)/703;";

    private static void never() {
        sentence("a FLOOR is NEVER come to, if it has a remainder, and that is none of those that can be.");
        FractionLift x = told("button:x*4;button:x*2;at 1;");
        due("never(3, 3/1)", x.never(3, 3, 1), 1);
        due("never(3, 2/1)", x.never(3, 2, 1), 0);
        due("never(3, 1/3)", x.never(3, 1, 3), 0);
        due("never(3, 1/2)", x.never(3, 1, 2), 0);
        due("never(2, 1/1)", x.never(2, 1, 1), 0);
        due("never(30, 4/1)", x.never(30, 4, 1), 0);
        due("never(30, 3/1)", x.never(30, 3, 1), 1);
        due("never(2, 1/1)", new FractionLift().never(2, 1, 1), 1);
        sentence("Whether a FLOOR is NEVER come to by m: 1, 0. -3: m (2 to 30), the FLOOR.");
        refused("never(1, ..)", -3, y -> y.never(1, 1, 1));
        refused("never(31, ..)", -3, y -> y.never(31, 1, 1));
        refused("never(0, ..)", -3, y -> y.never(0, 1, 1));
        refused("never(-2, ..)", -3, y -> y.never(-2, 1, 1));
        refused("never floor", -3, y -> y.never(2, 6, 1));
        refused("never floor", -3, y -> y.never(30, 1, 0));
        sentence("SHOWN by the least m.");
        due("shown(1)", new FractionLift().shown(1, 1), 2);
        due("shown(2)", new FractionLift().shown(2, 1), 3);
        due("shown(1/2)", new FractionLift().shown(1, 2), 3);
        due("shown(0)", new FractionLift().shown(0, 1), NONE);
        sentence("SHOWN: m. NONE: by none; -3.");
        FractionLift late = told(ONLY_BY_30);
        due("never(29)", late.never(29, 1, 1), 0);
        due("never(30)", late.never(30, 1, 1), 1);
        due("shown(1)", late.shown(1, 1), 30);
        // by 30 it is 1, too; by 31 it would be shown
        FractionLift none = told(ONLY_BY_30 + "button:67/37;");
        due("shown(1)", none.shown(1, 1), NONE);
        refused("shown floor", -3, y -> y.shown(6, 1));
        refused("shown floor", -3, y -> y.shown(1, 0));
        sentence("Remainders by m that can be, as bits. -3.");
        refused("rests(1)", -3, y -> y.rests(1));
        refused("rests(31)", -3, y -> y.rests(31));
        refused("rests(0)", -3, y -> y.rests(0));
        refused("rests(-30)", -3, y -> y.rests(-30));
        due("all by 30", told("button:x+1;").rests(30), (1 << 30) - 1);
        due("all by 2", told("button:x+1;").rests(2), 3);
    }

    // ---- who meets whom

    private static void meets(FractionLift x, int t, int u, boolean waits, int turns, int up, int low) {
        String call = "meet(" + t + ", " + u + ", " + waits + ")";
        due(call, x.meet(t, u, waits, 0), turns);
        fraction(call, x.meet(t, u, waits, 1), x.meet(t, u, waits, 2), up, low);
    }

    private static void meeting() {
        sentence("MEET: two tenants, each pressing one BUTTON a turn in a lift of its own from its FLOOR (waits: the second may "
                + "wait instead): the fewest turns (0 to 4) till they may be at one FLOOR, the least such FLOOR; NONE.");
        FractionLift x = told("top 9;button:x+1;button:x+2;tenant 0;tenant 1;tenant 4;tenant 5;tenant 0/9;tenant 9;");
        meets(x, 0, 4, false, 0, 0, 1);
        meets(x, 0, 4, true, 0, 0, 1);
        meets(x, 0, 1, false, 1, 2, 1);
        meets(x, 1, 0, false, 1, 2, 1);
        meets(x, 0, 1, true, 1, 1, 1);
        meets(x, 1, 0, true, 1, 2, 1);
        meets(x, 0, 2, false, 4, 8, 1);
        meets(x, 0, 3, false, NONE, NONE, NONE);
        meets(x, 0, 5, false, NONE, NONE, NONE);
        meets(x, 5, 0, true, NONE, NONE, NONE);
        FractionLift by1 = told("top 9;button:x+1;tenant 0;tenant 4;tenant 5;");
        meets(by1, 0, 1, true, 4, 4, 1);
        meets(by1, 0, 2, true, NONE, NONE, NONE);
        meets(by1, 1, 0, true, NONE, NONE, NONE);
        meets(by1, 0, 1, false, NONE, NONE, NONE);
        FractionLift down = told("button:x-1;tenant 0;tenant 1;");
        meets(down, 0, 1, true, NONE, NONE, NONE);
        meets(down, 1, 0, true, 1, 0, 1);
        meets(down, 1, 0, false, NONE, NONE, NONE);
        FractionLift still = told("tenant 1;tenant 2;tenant 1;");
        meets(still, 0, 1, true, NONE, NONE, NONE);
        meets(still, 0, 2, false, 0, 1, 1);
        // by two turns 2 and 3 are common to both
        meets(told("button:x+1;button:x/2;button:4-x;tenant 1;tenant 3;"), 0, 1, false, 2, 2, 1);
        meets(told("button:x+3;button:x+1/2;button:x+2;button:x/4;at 4;tenant 0;tenant 1;"), 0, 1, false, 1, 3, 1);
        meets(told("button:2/5;button:3/8;button:1/2;button:5/13;tenant 1;tenant 2;"), 0, 1, false, 1, 3, 8);
        sentence("MEET, what 0: turns, 1: upper, 2: lower number of the FLOOR. NONE; -2: a tenant, both one, what.");
        refused("meet(-1, 0)", -2, y -> y.meet(-1, 0, true, 0));
        refused("meet(3, 0)", -2, y -> y.meet(3, 0, true, 0));
        refused("meet(0, -1)", -2, y -> y.meet(0, -1, false, 0));
        refused("meet(0, 3)", -2, y -> y.meet(0, 3, false, 0));
        refused("meet(1, 1)", -2, y -> y.meet(1, 1, true, 0));
        refused("meet what", -2, y -> y.meet(0, 1, true, -1));
        refused("meet what", -2, y -> y.meet(0, 1, true, 3));
        due("meet(2, 0)", fullHouse().meet(2, 0, true, 0), 1);
    }

    private static void noneSticks() {
        sentence("Below no button sticks, but for ODDS.");
        FractionLift x = told("button:x+1;floor 1 has 0 0 0;floor 2 has 0 0 0;tenant 0;tenant 1;stick 9;");
        fewestRow(x, 4, 1, 0, 0, 0, 0);
        due("reach(2)", x.reach(2), 1);
        due("highest(2)", x.highest(2, 0), 2);
        noTwins(x);
        due("meet", x.meet(0, 1, false, 0), NONE);
        tray(x, 0, 0, 0, 1);
        due("fits", x.fits(0, NONE), 1);
        due("sure", x.sure(0, 1), 0);
        tray(x, 0, 0, 0, 0);
        due("judge", x.judge(0, 2), 2);
        due("perform", x.perform(0), 2);
        due("press", x.press(0), 3);
        due("odds(3)", x.odds(0, 3, 1), 81);
        due("odds(4)", x.odds(0, 4, 1), 10 + 9);
        due("ends", x.ends(0), 2);
    }

    public static void main(String[] args) {
        fewest();
        spent();
        reach();
        twins();
        remainders();
        never();
        meeting();
        noneSticks();
        finish();
    }
}
