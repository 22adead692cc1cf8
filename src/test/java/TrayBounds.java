/** Trays, images and counts (promises 43 to 48): each sentence that names a boundary, on both sides. */
public final class TrayBounds extends Bench {
    // ---- trays

    private static void numbers() {
        sentence("TRAYS 0 to 3 are MISSING at first, or have 0 to 40 numbers of 8 bits (sort 0), 16 (1), 32 (2), 64 (3).");
        for (int t = 0; t < 4; t++) {
            FractionLift x = new FractionLift();
            due("write, MISSING", x.write(t, 0, 1), -6);
            due("copy, MISSING", x.copy(t), -6);
            due("judge, MISSING", x.judge(t, 0), -6);
            due("numbers of 0", x.numbers(t, t, 0), 0);
            due("write into none", x.write(t, 0, 1), -7);
            due("copy into none", x.copy(t), 0);
            for (int other = 0; other < 4; other++) {
                if (other != t) {
                    due("another one is MISSING", x.write(other, 0, 1), -6);
                }
            }
            due("numbers of 40", x.numbers(t, t, 40), 0);
            due("the last one", x.write(t, 39, -1), -1);
            due("beyond it", x.write(t, 40, -1), -7);
        }
        sentence("A TRAY has n numbers of a sort, all 0 (in place of another one): 0. -2: no such TRAY, sort; -3, and the TRAY "
                + "stays: n is below 0 or above 40.");
        allZero();
        refused("numbers(4)", -2, y -> y.numbers(4, 0, 41));
        refused("numbers(-1)", -2, y -> y.numbers(-1, 0, -1));
        refused("sort 4", -2, y -> y.numbers(0, 4, 41));
        refused("sort -1", -2, y -> y.numbers(0, -1, 2));
        refused("n 41", -3, y -> y.numbers(0, 2, 41));
        refused("n -1", -3, y -> y.numbers(1, 0, -1));
        refused("n greatest", -3, y -> y.numbers(0, 0, Integer.MAX_VALUE));
        refused("n least", -3, y -> y.numbers(0, 0, Integer.MIN_VALUE));
        refused("n 41 of a MISSING one", -3, y -> y.numbers(3, 0, 41));
        due("tray 3, sort 3", fullHouse().numbers(3, 3, 40), 0);
        due("tray 0, sort 0", fullHouse().numbers(0, 0, 0), 0);
    }

    private static void allZero() {
        FractionLift x = told("button:x+1;button:x-1;");
        tray(x, 0, 0, 1, 1, 1);
        due("judge", x.judge(0, 1), 4);
        due("numbers", x.numbers(0, 0, 3), 0);
        due("judge, all 0", x.judge(0, 2), 3);
        due("numbers", x.numbers(0, 3, 4), 0);
        due("judge, all 0", x.judge(0, 2), 4);
        due("64 bits", x.write(0, 0, Long.MAX_VALUE), Long.MAX_VALUE);
        due("numbers", x.numbers(0, 0, 1), 0);
        due("8 bits", x.write(0, 0, 256), 0);
        due("one place", x.write(0, 1, 0), -7);
    }

    private static void writing() {
        sentence("Number i of a TRAY is v, cut to its sort: as it is there. -2: no such TRAY; -6; -7.");
        FractionLift x = new FractionLift();
        for (int sort = 0; sort < 4; sort++) {
            x.numbers(1, sort, 2);
            int bits = 8 << sort;
            long most = Long.MAX_VALUE >>> 64 - bits;
            due("most of " + bits + " bits", x.write(1, 0, most), most);
            due("one more", x.write(1, 0, most + 1), -most - 1);
            due("least of " + bits + " bits", x.write(1, 1, -most - 1), -most - 1);
            due("one less", x.write(1, 1, -most - 2), most);
            due("NONE", x.write(1, 0, NONE), NONE);
            due("all bits", x.write(1, 0, 0x123456789abcdef0L), 0x123456789abcdef0L << 64 - bits >> 64 - bits);
            due("place -1", x.write(1, -1, 5), -7);
            due("place 2", x.write(1, 2, 5), -7);
        }
        due("256, in 8 bits", cutTo(0, 256), 0);
        due("255, in 8 bits", cutTo(0, 255), -1);
        due("65536, in 16 bits", cutTo(1, 65536), 0);
        due("2 to the 32, in 32 bits", cutTo(2, 4294967296L), 0);
        due("2 to the 32, in 64 bits", cutTo(3, 4294967296L), 4294967296L);
        refused("write(4)", -2, y -> y.write(4, 99, 7));
        refused("write(-1)", -2, y -> y.write(-1, 0, 7));
        refused("write(3), MISSING", -6, y -> y.write(3, 99, 7));
        refused("write(0, 3)", -7, y -> y.write(0, 3, 7));
        refused("write(0, -1)", -7, y -> y.write(0, -1, 7));
        refused("write(2, 40)", -7, y -> y.write(2, 40, 7));
        refused("write(2, least)", -7, y -> y.write(2, Integer.MIN_VALUE, 7));
        due("write(0, 2)", fullHouse().write(0, 2, 7), 7);
        due("write(2, 39)", fullHouse().write(2, 39, 7), 7);
    }

    private static long cutTo(int sort, long v) {
        FractionLift x = new FractionLift();
        x.numbers(0, sort, 1);
        return x.write(0, 0, v);
    }

    private static void copying() {
        sentence("ADDRESS of AT comes into a TRAY from its first place on, as many numbers as it has places: how many. -2; -6.");
        // 5/7 is 0, 1, 2, 2; a row of these: 5/7 + 1, / 2, + 1/4, + 1/4; a 3 that stays leads to 3
        String text = "button:x+1;button:x/2;button:x+1/4;button:3;at 5/7;";
        int[][] judged = {{1, 12, 7}, {3, 31, 28}, {4, 19, 14}, {5, 3, 1}};
        for (int[] want : judged) {
            FractionLift x = told(text);
            x.numbers(0, 1, want[0]);
            for (int i = 0; i < want[0]; i++) {
                x.write(0, i, 3);
            }
            due("copy into " + want[0], x.copy(0), Math.min(want[0], 4));
            fraction("judge of " + want[0], x.judge(0, 2), x.judge(0, 3), want[1], want[2]);
        }
        FractionLift none = told(text);
        none.numbers(0, 0, 0);
        due("copy into none", none.copy(0), 0);
        FractionLift whole = told("button:x+1;button:3;");
        tray(whole, 0, 0, 1, 1);
        due("copy of 0", whole.copy(0), 1);
        due("judge", whole.judge(0, 2), 3);
        copiedAndCut();
        refused("copy(4)", -2, y -> y.copy(4));
        refused("copy(-1)", -2, y -> y.copy(-1));
        refused("copy(3), MISSING", -6, y -> y.copy(3));
    }

    private static void copiedAndCut() {
        // 1/256 is 0, 256: in 8 bits 0, 0
        FractionLift x = told("button:x+1;button:x/128;at 1/2;");
        due("press(1)", x.press(1), 1);
        x.numbers(0, 0, 2);
        due("copy", x.copy(0), 2);
        due("cut", x.judge(0, 0), NONE);
        due("cut", x.judge(0, 2), 513);
        x.numbers(0, 1, 2);
        due("copy", x.copy(0), 2);
        due("not cut", x.judge(0, 0), 1);
        due("not cut", x.judge(0, 1), 1);
        FractionLift longest = new FractionLift();
        longest.numbers(0, 3, 40);
        due("copy of 0", longest.copy(0), 1);
    }

    // ---- images

    private static void images() {
        sentence("IMAGES 0 to 1: THE HOUSE, floors and tenants as they are, AT, how many were PRESSED; nothing can be UNDONE behind "
                + "(none at first).");
        for (int i = 0; i < 2; i++) {
            keptBy(i);
        }
        FractionLift both = told("button:x+1;");
        due("image(0)", both.image(0), 0);
        both.press(0);
        due("image(1)", both.image(1), 0);
        due("count(5), an image alone forgets nothing", both.count(5), 1);
        both.press(0);
        due("restore(0)", both.restore(0), 0);
        due("at(0)", both.at(0), 0);
        due("restore(1)", both.restore(1), 0);
        due("at(0)", both.at(0), 1);
        due("count(6)", both.count(6), 1);
        due("image(1) anew", both.image(0), 0);
        both.press(0);
        due("restore(0)", both.restore(0), 0);
        due("at(0)", both.at(0), 1);
        sentence("An IMAGE is made: 0. -2.");
        refused("image(2)", -2, y -> y.image(2));
        refused("image(-1)", -2, y -> y.image(-1));
        sentence("All that is in an IMAGE is as it was: 0. -2; -5: none was made.");
        refused("restore(2)", -2, y -> y.restore(2));
        refused("restore(-1)", -2, y -> y.restore(-1));
        refused(() -> imageOf(1), "restore(0)", -5, y -> y.restore(0));
        refused(() -> imageOf(0), "restore(1)", -5, y -> y.restore(1));
        due("restore(0)", imageOf(0).restore(0), 0);
        due("restore(1)", imageOf(1).restore(1), 0);
    }

    private static FractionLift imageOf(int i) {
        FractionLift x = told("button:x+1;tenant 1;floor 1 has 1 2 3;");
        x.press(0);
        x.image(i);
        x.press(0);
        return x;
    }

    private static void keptBy(int i) {
        FractionLift x = told("top 3;button:x+1;button:x/2;floor 1 has 7 8 9;tenant 2;stick 5;");
        x.press(0);
        x.press(0);
        due("tells", x.tells(2, 1), 1);
        due("moves", x.moves(0, 1, 2), 0);
        due("image(" + i + ")", x.image(i), 0);
        due("tells", x.tells(3, 1), 2);
        due("moves", x.moves(0, 1, 1), 0);
        due("press", x.press(0), 3);
        tray(x, 0, 0, 1);
        due("house", tell(x, "top 9;button:1/x;button:x;button:x;at 7/3;floor 5 has 1 1 1;tenant 1;"), 7);
        due("fault", tell(x, "lift"), -32);
        feed(x, "at 2;");
        due("restore(" + i + ")", x.restore(i), 0);
        int[] counts = {3, 2, 2, 1, 5, 0, 2, 20, 6};
        for (int what = 0; what < counts.length; what++) {
            due("count(" + what + ")", x.count(what), counts[what]);
        }
        fraction("at", x.at(0), x.at(1), 2, 1);
        fraction("tenant", x.tenant(0, 0), x.tenant(0, 1), 1, 2);
        due("floor(1, 0)", x.floor(1, 0), 2);
        due("floor(1, 2)", x.floor(1, 2), 7);
        due("floor(2, 0)", x.floor(2, 0), -2);
        due("leads(1, 3)", x.leads(1, 3, 1, 1), 2);
        due("leads(2, 3)", x.leads(2, 3, 1, 1), -11);
        due("undo(1)", x.undo(1), -3);
        fraction("the fault stays", x.fault(0), x.fault(1), 2, 0);
        due("the tray stays", x.judge(0, 2), 1);
        due("press(0)", x.press(0), 1);
        due("restore again", x.restore(i), 0);
        due("count(5)", x.count(5), 0);
        due("at(0)", x.at(0), 2);
    }

    // ---- counts

    private static void counts() {
        sentence("0 TOP, 1 BUTTONS, 2 told floors, 3 tenants, 4 STICK, 5 PRESSES that can be UNDONE, 6 PRESSES since THE HOUSE was "
                + "told (UNDONE ones, too), 7 bytes on THE TAPE, 8 LINES. NONE for others.");
        FractionLift x = told("top 9;button:x+1/9;button:x;floor 1 has 0 0 0;floor 2 has 0 0 0;floor 3 has 0 0 0;tenant 1;"
                + "tenant 1;tenant 1;tenant 1;stick 6;");
        for (int i = 0; i < 13; i++) {
            x.press(0);
        }
        x.undo(3);
        x.press(0);
        feed(x, times(60, " "));
        int[] want = {9, 2, 3, 4, 6, 10, 14, 60, 11};
        for (int what = 0; what < want.length; what++) {
            due("count(" + what + ")", x.count(what), want[what]);
        }
        due("tells", x.tells(4, 1), 3);
        due("count(2)", x.count(2), 4);
        due("count(8)", x.count(8), 11);
        for (int what : new int[] {Integer.MIN_VALUE, -1, 9, 10, Integer.MAX_VALUE}) {
            due("count(" + what + ")", x.count(what), NONE);
        }
        due("house(0)", x.house(0), 0);
        due("count(6)", x.count(6), 0);
        due("count(8)", x.count(8), 0);
    }

    /** The constants, and the codes by their numbers. */
    private static void codes() {
        sentence("The constants: `NONE = -1`: There is none.");
        due("NONE", FractionLift.NONE, -1);
        sentence("`SPENT = -1000`: Too many FLOORS were met.");
        due("SPENT", FractionLift.SPENT, -1000);
        sentence("-2 there is none such; -3 a number can't be; -4 too many; -5 it can't be now; -6 a TRAY is MISSING; -7 it has no "
                + "such number; -11 to -14 a BUTTON can't be (1 to 4); -30 less the FAULT: a text.");
        FractionLift none = told("button:1/(x-1);button:999*999*999*999*x;button:x-2;at 1;");
        none.numbers(0, 0, 9);
        due("-2", none.at(2), -2);
        due("-3", none.undo(1), -3);
        due("-4", none.judge(0, 0), -4);
        due("-5", none.restore(0), -5);
        due("-6", none.perform(1), -6);
        due("-7", none.write(0, 9, 0), -7);
        int[] cantBe = {-12, -13, -14, -11};
        for (int b = 0; b < cantBe.length; b++) {
            due("press(" + b + ")", none.press(b), cantBe[b]);
        }
        due("-30 less the FAULT", tell(none, "at 1000;"), -31);
        sentence("(Of several that which the call tells first; all these ahead of SPENT and NONE.)");
        FractionLift x = fullHouse();
        due("judge: the TRAY, what; -6", x.judge(3, 4), -2);
        due("judge: -6; -4", x.judge(3, 0), -6);
        due("judge: what; -4", x.judge(2, 4), -2);
        due("leads: what; the FLOOR", x.leads(9, 6, 1, 2), -2);
        due("leads: the FLOOR; the BUTTON", x.leads(9, 6, 1, 0), -3);
        due("has: the STUFF; the FLOOR", x.has(3, 6, 1, 0), -2);
        due("where: what; n", x.where(0, 100, 2), -2);
        due("tells: the FLOOR; told there", x.tells(3, 0), -3);
        due("fewest: what; the FLOOR", x.fewest(6, 1, 18), -2);
        due("highest: what; n", x.highest(6, 2), -2);
        due("neighbour: what; d", x.neighbour(1, 1, 0, true, 2), -2);
        due("simplest: what; the FLOOR", x.simplest(6, 1, 6, 1, 2), -2);
        due("moves: the tenant; the FLOOR", x.moves(3, 6, 1), -2);
        due("fits: -6 ahead of the k", x.fits(3, 5), -6);
        due("sure: -4; the place", x.sure(2, 41), -4);
        due("odds: the TRAY; the FLOOR", x.odds(4, 6, 1), -2);
        due("odds: -6; the FLOOR", x.odds(3, 6, 1), -6);
        due("odds: -4; the FLOOR", x.odds(2, 6, 1), -4);
        due("numbers: sort; n", x.numbers(0, 4, 41), -2);
        due("write: the TRAY; the place", x.write(4, 40, 0), -2);
        due("write: -6; the place", x.write(3, 40, 0), -6);
        due("rent: ahead of all", x.rent(3, 2), -2);
    }

    public static void main(String[] args) {
        numbers();
        writing();
        copying();
        images();
        counts();
        codes();
        finish();
    }
}
