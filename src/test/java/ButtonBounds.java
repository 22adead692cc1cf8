/** Floors, buttons, rows and days (promises 5 to 14): each sentence that names a boundary, on both sides. */
public final class ButtonBounds extends Bench {
    private static final int LEAST = Integer.MIN_VALUE;
    private static final int GREATEST = Integer.MAX_VALUE;
    /** 1,000,000,000 by numbers of three digits. */
    private static final String BILLION = "500*2*500*2*500*2";

    // ---- what is read of the house

    private static void readings() {
        sentence("AT: its upper number (what 0), its lower one (1). -2.");
        FractionLift x = told("at 6/4;floor 3 has 1 2 3;floor 1/2 has 4 5 6;floor 2 has 7 8 9;tenant 0/9;tenant 10/4;");
        fraction("at", x.at(0), x.at(1), 3, 2);
        refused("at(2)", -2, y -> y.at(2));
        refused("at(-1)", -2, y -> y.at(-1));
        sentence("Of a told floor, what 0: upper, 1: lower number, 2 to 4: STUFF 0 to 2 that it HAS, 5: its place from "
                + "below, from 0 on. -2.");
        int[][] floors = {{3, 1, 1, 2, 3, 2}, {1, 2, 4, 5, 6, 0}, {2, 1, 7, 8, 9, 1}};
        for (int k = 0; k < 3; k++) {
            for (int what = 0; what < 6; what++) {
                due("floor(" + k + ", " + what + ")", x.floor(k, what), floors[k][what]);
            }
        }
        due("floor(3, 0)", x.floor(3, 0), -2);
        refused("floor(-1, 0)", -2, y -> y.floor(-1, 0));
        refused("floor(4, 0)", -2, y -> y.floor(4, 0));
        refused("floor(0, -1)", -2, y -> y.floor(0, -1));
        refused("floor(0, 6)", -2, y -> y.floor(0, 6));
        sentence("Of a tenant's FLOOR, what 0: upper, 1: lower number. -2.");
        fraction("tenant 0", x.tenant(0, 0), x.tenant(0, 1), 0, 1);
        fraction("tenant 1", x.tenant(1, 0), x.tenant(1, 1), 5, 2);
        due("tenant(2, 0)", x.tenant(2, 0), -2);
        refused("tenant(-1, 0)", -2, y -> y.tenant(-1, 0));
        refused("tenant(3, 0)", -2, y -> y.tenant(3, 0));
        refused("tenant(0, -1)", -2, y -> y.tenant(0, -1));
        refused("tenant(0, 2)", -2, y -> y.tenant(0, 2));
    }

    // ---- floors

    private static void isFloor(FractionLift x, int up, int low, int wantUp, int wantLow) {
        fraction("leads(0, " + up + "/" + low + ")", x.leads(0, up, low, 0), x.leads(0, up, low, 1), wantUp, wantLow);
    }

    private static void isNone(FractionLift x, int up, int low) {
        due("leads(0, " + up + "/" + low + ")", x.leads(0, up, low, 0), -3);
    }

    private static void floors() {
        FractionLift x = told("top 9;button:x;");
        sentence("All FRACTIONS are in lowest terms (0 is 0 by 1).");
        isFloor(x, 6, 4, 3, 2);
        isFloor(x, 0, 7, 0, 1);
        isFloor(x, 8, 8, 1, 1);
        sentence("FLOORS are all FRACTIONS from 0 to TOP with upper and lower number up to 1,000,000.");
        isFloor(x, 0, 1, 0, 1);
        isNone(x, -1, 1);
        isFloor(x, 9, 1, 9, 1);
        isNone(x, 10, 1);
        isFloor(x, 999999, 111111, 9, 1);
        isNone(x, 1000000, 111111);
        isFloor(x, 1, 1000000, 1, 1000000);
        isNone(x, 1, 1000001);
        isFloor(x, 1000000, 999999, 1000000, 999999);
        isNone(x, 1000001, 999999);
        isNone(x, 1000001, 1000000);
        isFloor(x, 999999, 1000000, 999999, 1000000);
        sentence("FLOORS are asked by an upper and a lower number (1 and more; in any terms); -3 if it is none.");
        isNone(x, 1, 0);
        isNone(x, 0, 0);
        isNone(x, 0, -1);
        isNone(x, -1, -1);
        isNone(x, LEAST, LEAST);
        isNone(x, GREATEST, 1);
        isFloor(x, 1, 1, 1, 1);
        isFloor(x, 0, GREATEST, 0, 1);
        isFloor(x, GREATEST, GREATEST, 1, 1);
        isFloor(x, 2000000000, 1000000000, 2, 1);
        isFloor(x, 2000000, 1999998, 1000000, 999999);
        isNone(x, 2000002, 2000000);
        isFloor(x, 2, 2000000, 1, 1000000);
    }

    // ---- why a button can't be

    private static void comesOut(FractionLift x, int button, int up, int low, int wantUp, int wantLow) {
        fraction("leads(" + button + ", " + up + "/" + low + ")", x.leads(button, up, low, 0),
                x.leads(button, up, low, 1), wantUp, wantLow);
    }

    private static void cantBe(FractionLift x, int button, int up, int low, int why) {
        due("leads(" + button + ", " + up + "/" + low + ")", x.leads(button, up, low, 0), -10 - why);
        due("leads(" + button + ", " + up + "/" + low + ")", x.leads(button, up, low, 1), -10 - why);
    }

    private static void reckoning() {
        sentence("A BUTTON leads from x to its SUM, from the left, exactly;");
        FractionLift x = told("top 9;button:9-x-1;button:8/2/2*x;button:2+3*x-1;button:(2-x)*(2-x)-(0-x)/2;button:8/2*x/3;"
                + "button:top-x*top/9;");
        comesOut(x, 0, 7, 2, 9, 2);
        comesOut(x, 1, 1, 2, 1, 1);
        comesOut(x, 2, 1, 2, 5, 2);
        comesOut(x, 3, 3, 1, 5, 2);
        comesOut(x, 4, 1, 1, 4, 3);
        comesOut(x, 5, 1, 7, 62, 7);
        FractionLift below = told("button:3-x/(0-2);button:(0-x)/(0-2/3);button:4+2/(x-4);");
        comesOut(below, 0, 2, 3, 10, 3);
        comesOut(below, 1, 5, 7, 15, 14);
        comesOut(below, 2, 1, 2, 24, 7);
        sentence("it can't be: 1 no such BUTTON;");
        cantBe(x, -1, 1, 1, 1);
        comesOut(x, 5, 9, 1, 0, 1);
        cantBe(x, 6, 1, 1, 1);
        cantBe(x, LEAST, 1, 1, 1);
        cantBe(x, GREATEST, 1, 1, 1);
        cantBe(new FractionLift(), 0, 0, 1, 1);
        sentence("2 something is divided by 0;");
        FractionLift over = told("button:1/x;button:1/(x-1);button:0/0;button:x/(1/999/999-x);button:0/x;button:x/x;");
        cantBe(over, 0, 0, 1, 2);
        comesOut(over, 0, 1, 4, 4, 1);
        cantBe(over, 1, 1, 1, 2);
        comesOut(over, 1, 2, 1, 1, 1);
        cantBe(over, 2, 1, 1, 2);
        cantBe(over, 3, 1, 998001, 2);
        cantBe(over, 4, 0, 1, 2);
        comesOut(over, 4, 3, 1, 0, 1);
        cantBe(over, 5, 0, 1, 2);
        comesOut(over, 5, 3, 1, 1, 1);
    }

    private static void numbersOnTheWay() {
        sentence("3 a number on the way has an upper (without sign) or lower one above 1,000,000,000;");
        FractionLift x = told("button:" + BILLION + "*x*0;button:(0-" + BILLION + ")*x*0;button:1/(" + BILLION + ")*0*x;"
                + "button:1/7/11/13/19/(52*999+631)*0*x;button:(" + BILLION + "+x)*0;button:(0-x-" + BILLION + ")*0;");
        comesOut(x, 0, 1, 1, 0, 1);
        cantBe(x, 0, 1000000, 999999, 3);
        comesOut(x, 1, 1, 1, 0, 1);
        cantBe(x, 1, 1000000, 999999, 3);
        // 7 * 11 * 13 * 19 * 52579 is 1,000,000,001
        comesOut(x, 2, 1, 1, 0, 1);
        cantBe(x, 3, 1, 1, 3);
        comesOut(x, 4, 0, 1, 0, 1);
        cantBe(x, 4, 1, 1, 3);
        comesOut(x, 5, 0, 1, 0, 1);
        cantBe(x, 5, 1, 1, 3);
        FractionLift first = told("button:999*999*999*999/0;button:1/0+999*999*999*999;button:(999*999*999*999)*0;"
                + "button:" + BILLION + ";button:" + BILLION + "+1;button:x/500/500/500/2/2/2;");
        cantBe(first, 0, 1, 1, 3);
        cantBe(first, 1, 1, 1, 2);
        cantBe(first, 2, 1, 1, 3);
        cantBe(first, 3, 1, 1, 4);
        cantBe(first, 4, 1, 1, 3);
        cantBe(first, 5, 1, 1, 4);
        cantBe(first, 5, 1, 2, 3);
    }

    private static void noFloorComesOut() {
        sentence("4 what comes out is no FLOOR.");
        FractionLift x = told("button:x+1;button:x-1;button:x/2;button:x/101;button:top+x;");
        comesOut(x, 0, 3, 1, 4, 1);
        cantBe(x, 0, 300001, 100000, 4);
        cantBe(x, 0, 31, 10, 4);
        comesOut(x, 0, 1, 999999, 1000000, 999999);
        cantBe(x, 0, 1, 1000000, 4);
        comesOut(x, 1, 1, 1, 0, 1);
        cantBe(x, 1, 999999, 1000000, 4);
        comesOut(x, 2, 1, 500000, 1, 1000000);
        cantBe(x, 2, 1, 500001, 4);
        comesOut(x, 3, 1, 9900, 1, 999900);
        cantBe(x, 3, 1, 9901, 4);
        comesOut(x, 4, 0, 1, 4, 1);
        cantBe(x, 4, 1, 1000000, 4);
    }

    private static FractionLift everyWhy() {
        FractionLift x = told("button:x+1;button:1/(x-2);button:999*999*999*999*x;button:x-3;at 1;");
        x.press(0);
        return x;
    }

    private static void whyAndLeads() {
        sentence("Why a BUTTON can't be from AT; 0.");
        FractionLift x = everyWhy();
        int[] why = {0, 2, 3, 4, 1};
        for (int b = 0; b < why.length; b++) {
            due("why(" + b + ")", x.why(b), why[b]);
        }
        due("why(-1)", x.why(-1), 1);
        sentence("Where a BUTTON leads from a FLOOR, what 0: upper, 1: lower number. -2: what; -3: the FLOOR; -11 to -14.");
        refused("leads what", -2, y -> y.leads(9, 9, 0, 2));
        refused("leads what", -2, y -> y.leads(0, 1, 1, -1));
        refused("leads floor", -3, y -> y.leads(9, 6, 1, 0));
        refused("leads floor", -3, y -> y.leads(9, 1, 0, 1));
        refused("leads button", -11, y -> y.leads(9, 1, 1, 0));
        refused("leads by 0", -12, y -> y.leads(2, 2, 1, 0));
        refused("leads too far", -13, y -> y.leads(3, 2, 1, 0));
        refused("leads to no floor", -14, y -> y.leads(4, 1, 2, 0));
        due("leads(0, 5/1)", fullHouse().leads(4, 5, 1, 0), 4);
        sentence("It is PRESSED: how many can be UNDONE. -11 to -14.");
        refused(ButtonBounds::everyWhy, "press(4)", -11, y -> y.press(4));
        refused(ButtonBounds::everyWhy, "press(-1)", -11, y -> y.press(-1));
        refused(ButtonBounds::everyWhy, "press(1)", -12, y -> y.press(1));
        refused(ButtonBounds::everyWhy, "press(2)", -13, y -> y.press(2));
        refused(ButtonBounds::everyWhy, "press(3)", -14, y -> y.press(3));
        due("press(0)", everyWhy().press(0), 2);
    }

    // ---- pressed, undone

    private static FractionLift pressed(int n) {
        FractionLift x = told("top 9;button:x+1/9;");
        for (int i = 1; i <= n; i++) {
            due("press(0), the " + i + "th", x.press(0), Math.min(i, 12));
        }
        return x;
    }

    private static void isAtNinths(FractionLift x, int ninths) {
        due("at, in ninths", x.at(0) * 9 / x.at(1), ninths);
    }

    private static void undoing() {
        sentence("PRESSED: the lift is AT the FLOOR to which it leads.");
        FractionLift once = told("button:x/3+1/2;button:x-1;at 1;");
        due("press(0)", once.press(0), 1);
        fraction("at", once.at(0), once.at(1), 5, 6);
        due("press(1)", once.press(1), -14);
        fraction("at", once.at(0), once.at(1), 5, 6);
        sentence("The latest 12 can be UNDONE (AT as it was; nothing else, eldest are forgotten).");
        FractionLift twelve = pressed(12);
        due("undo(12)", twelve.undo(12), 0);
        isAtNinths(twelve, 0);
        due("undo(1)", twelve.undo(1), -3);
        FractionLift thirteen = pressed(13);
        due("count(5)", thirteen.count(5), 12);
        due("undo(12)", thirteen.undo(12), 0);
        isAtNinths(thirteen, 1);
        due("undo(1)", thirteen.undo(1), -3);
        due("count(6)", thirteen.count(6), 13);
        FractionLift many = pressed(40);
        for (int left = 11; left >= 0; left--) {
            due("undo(1)", many.undo(1), left);
            isAtNinths(many, 28 + left);
        }
        due("undo(1)", many.undo(1), -3);
        due("press(0)", many.press(0), 1);
        nothingElse();
        sentence("n (1 to 12) are UNDONE: how many still can be. -3: n, more than can be.");
        refused("undo(0)", -3, x -> x.undo(0));
        refused("undo(-1)", -3, x -> x.undo(-1));
        refused("undo(7)", -3, x -> x.undo(7));
        refused(() -> pressed(13), "undo(13)", -3, x -> x.undo(13));
        refused(() -> pressed(12), "undo(13)", -3, x -> x.undo(13));
        refused(() -> pressed(3), "undo(4)", -3, x -> x.undo(4));
        refused(() -> pressed(3), "undo(greatest)", -3, x -> x.undo(GREATEST));
        refused(() -> pressed(3), "undo(least)", -3, x -> x.undo(LEAST));
        due("undo(3)", pressed(3).undo(3), 0);
        due("undo(1)", pressed(3).undo(1), 2);
    }

    private static void nothingElse() {
        FractionLift x = told("button:x+1;tenant 1;");
        x.press(0);
        x.press(0);
        due("tells", x.tells(3, 1), 0);
        due("moves", x.moves(0, 2, 1), 0);
        due("undo(2)", x.undo(2), 0);
        due("count(2)", x.count(2), 1);
        due("tenant(0, 0)", x.tenant(0, 0), 2);
        due("count(6)", x.count(6), 2);
        due("at(0)", x.at(0), 0);
    }

    // ---- rows

    private static void judged(FractionLift x, int tray, int... want) {
        for (int what = 0; what < 4; what++) {
            due("judge(" + tray + ", " + what + ")", x.judge(tray, what), want[what]);
        }
    }

    private static FractionLift rowOf(int n) {
        FractionLift x = fullHouse();
        due("numbers", x.numbers(0, 0, n), 0);
        return x;
    }

    private static void rows() {
        sentence("ROWS in a TRAY: BUTTONS by numbers, 1 to 8, one behind the other, from AT on.");
        FractionLift x = told("top 9;button:x+1;button:x*2;button:1/(x-3);at 1;");
        tray(x, 0, 0, 1);
        judged(x, 0, NONE, 0, 2, 1);
        tray(x, 1, 2, 0, 1, 0, 0, 0, 0, 0, 2);
        judged(x, 1, NONE, 0, 1, 6);
        tray(x, 2, 3, 1, 0, 2, 0);
        judged(x, 2, 2, 2, 3, 1);
        tray(x, 3, 1, 3);
        judged(x, 3, 0, 1, 1, 1);
        tray(x, 3, 1, 0, -1);
        judged(x, 3, 1, 1, 2, 1);
        tray(x, 3, 3, 4294967297L);
        judged(x, 3, 0, 1, 1, 1);
        tray(x, 3, 3, Long.MIN_VALUE);
        judged(x, 3, 0, 1, 1, 1);
        tray(x, 3, 0, 1, 1, 1, 1);
        judged(x, 3, 3, 4, 8, 1);
        sentence("A ROW, judged as if PRESSED (till one can't be), what 0: the first place that can't be (NONE), 1: why "
                + "(0), 2: upper, 3: lower number of the FLOOR then. -2: the TRAY, what; -6; -4: not 1 to 8 numbers.");
        fraction("at stays", x.at(0), x.at(1), 1, 1);
        due("count(6)", x.count(6), 0);
        refused("judge(4, 0)", -2, y -> y.judge(4, 0));
        refused("judge(-1, 0)", -2, y -> y.judge(-1, 0));
        refused("judge(3, 4)", -2, y -> y.judge(3, 4));
        refused("judge(2, -1)", -2, y -> y.judge(2, -1));
        refused("judge(3, 0)", -6, y -> y.judge(3, 0));
        refused(() -> rowOf(0), "judge of 0", -4, y -> y.judge(0, 0));
        refused(() -> rowOf(9), "judge of 9", -4, y -> y.judge(0, 0));
        refused(() -> rowOf(40), "judge of 40", -4, y -> y.judge(0, 3));
        refused("judge", NONE, y -> y.judge(0, 0));
        due("judge of 1", rowOf(1).judge(0, 0), NONE);
        due("judge of 8", rowOf(8).judge(0, 0), 2);
    }

    private static void performing() {
        sentence("It is PRESSED, till one can't be: how many. -2; -6; -4.");
        FractionLift x = told("top 9;button:x+1;button:x*2;button:1/(x-3);at 1;");
        tray(x, 0, 0, 1, 0, 2, 0);
        due("perform", x.perform(0), 2);
        due("at(0)", x.at(0), 3);
        due("count(5)", x.count(5), 2);
        due("count(6)", x.count(6), 2);
        due("none can be", told("button:x;").count(5), 0);
        tray(x, 1, 0, 2);
        due("perform", x.perform(1), 0);
        due("count(6)", x.count(6), 2);
        tray(x, 1, 0, 9);
        due("perform", x.perform(1), 0);
        FractionLift whole = pressed(11);
        tray(whole, 0, 0, 0, 0, 0, 0, 0, 0, 0, 0);
        due("perform", whole.perform(0), 8);
        due("count(5)", whole.count(5), 12);
        isAtNinths(whole, 19);
        due("undo(12)", whole.undo(12), 0);
        isAtNinths(whole, 7);
        refused("perform(4)", -2, y -> y.perform(4));
        refused("perform(-1)", -2, y -> y.perform(-1));
        refused("perform(3)", -6, y -> y.perform(3));
        refused(() -> rowOf(0), "perform of 0", -4, y -> y.perform(0));
        refused(() -> rowOf(9), "perform of 9", -4, y -> y.perform(0));
        due("perform of 1", rowOf(1).perform(0), 1);
        due("perform of 8", rowOf(8).perform(0), 2);
    }

    // ---- days

    private static int drawn(int x) {
        return 1103515245 * x + 12345;
    }

    private static void draws() {
        sentence("A DAY by a SEED (x, an int; a DRAW: x becomes 1103515245 x + 12345, it is x >>> 16): so many times (1 to "
                + "60): BUTTON DRAW modulo BUTTONS; it sticks, if DRAW modulo 10 is below STICK (nothing is PRESSED then), "
                + "else it is PRESSED, if it can be.");
        boolean[] seen = new boolean[20];
        for (int seed = -40; seed < 40; seed++) {
            int first = drawn(seed);
            int rest = (drawn(first) >>> 16) % 10;
            seen[rest + (first < 0 ? 10 : 0)] = true;
            for (int stick = 0; stick <= 9; stick++) {
                FractionLift x = told("top 6;button:1;button:2;button:3;button:4;button:5;stick " + stick + ";");
                int pressed = rest < stick ? 0 : 1;
                due("day(" + seed + ", 1), stick " + stick, x.day(seed, 1), pressed);
                due("at(0)", x.at(0), pressed == 0 ? 0 : (first >>> 16) % 5 + 1);
            }
        }
        for (int i = 0; i < seen.length; i++) {
            due("a draw of the kind " + i, seen[i] ? 1 : 0, 1);
        }
        wholeDays();
        FractionLift none = told("button:x-1;button:1/x;");
        due("none can be", none.day(3, 60), 0);
        due("count(6)", none.count(6), 0);
    }

    private static void wholeDays() {
        for (int times = 1; times <= 60; times += 59) {
            for (int seed : new int[] {0, 77, -77, LEAST, GREATEST}) {
                FractionLift x = told("top 9;button:x+1/97;button:x+1;button:x-1;stick 4;");
                int draw = seed;
                int pressed = 0;
                int at = 0;
                for (int i = 0; i < times; i++) {
                    draw = drawn(draw);
                    int to = at + new int[] {1, 97, -97}[(draw >>> 16) % 3];
                    draw = drawn(draw);
                    if ((draw >>> 16) % 10 >= 4 && to >= 0 && to <= 9 * 97) {
                        at = to;
                        pressed++;
                    }
                }
                due("day(" + seed + ", " + times + ")", x.day(seed, times), pressed);
                due("at", (long) x.at(0) * 97 / x.at(1), at);
                due("count(5)", x.count(5), Math.min(pressed, 12));
                due("count(6)", x.count(6), pressed);
            }
        }
    }

    private static void days() {
        sentence("A DAY: how many were PRESSED. -3: how many times; -5: no BUTTONS.");
        refused("day(5, 0)", -3, x -> x.day(5, 0));
        refused("day(5, -1)", -3, x -> x.day(5, -1));
        refused("day(5, 61)", -3, x -> x.day(5, 61));
        FractionLift still = told("button:x;");
        due("day(5, 1)", still.day(5, 1), 1);
        due("day(5, 60)", still.day(5, 60), 60);
        refused(() -> told("at 1;stick 2;"), "day(5, 1)", -5, x -> x.day(5, 1));
        refused(() -> told("at 1;stick 2;"), "day(5, 61)", -3, x -> x.day(5, 61));
        refused(() -> told("at 1;stick 2;"), "day(5, 0)", -3, x -> x.day(5, 0));
    }

    public static void main(String[] args) {
        readings();
        floors();
        reckoning();
        numbersOnTheWay();
        noFloorComesOut();
        whyAndLeads();
        undoing();
        rows();
        performing();
        draws();
        days();
        finish();
    }
}
