/** What was seen, and odds (promises 39 to 42): each sentence that names a boundary, on both sides. */
public final class SeenBounds extends Bench {
    private static final String THREE_FLOORS = "floor 2 has 0 0 0;floor 3 has 0 0 0;floor 4 has 0 0 0;";

    /** So many buttons that stay, and so many places that are not known. */
    private static FractionLift unknown(int buttons, int places) {
        FractionLift x = told(times(buttons, "button:x;") + THREE_FLOORS);
        x.numbers(0, 0, places);
        for (int i = 0; i < places; i++) {
            x.write(0, i, NONE);
        }
        return x;
    }

    private static FractionLift seen(long... numbers) {
        FractionLift x = told("button:x+1;button:x+2;button:x/2;" + THREE_FLOORS);
        tray(x, 0, 3, numbers);
        return x;
    }

    private static void fitting() {
        sentence("SEEN in a TRAY (2 to 8 numbers): someone PRESSED BUTTONS from AT, one behind the other; behind each he was at a "
                + "told floor (its number), or it is not known (NONE): ROWS that FIT;");
        FractionLift x = seen(NONE, 0, 2);
        // 0 0 1, and 2 1 1
        due("fits", x.fits(0, NONE), 2);
        due("fits(0)", x.fits(0, 0), 1);
        due("fits(1)", x.fits(0, 1), 2 * 36 + 6 + 1);
        due("fits(2)", x.fits(0, 2), NONE);
        due("fits(-2)", x.fits(0, -2), NONE);
        due("fits(least)", x.fits(0, Integer.MIN_VALUE), NONE);
        due("fits(greatest)", x.fits(0, Integer.MAX_VALUE), NONE);
        due("a last place", seen(NONE, 2).fits(0, NONE), 1);
        due("a last place", seen(NONE, 2).fits(0, 0), 6 + 1);
        due("both known", seen(0, 1).fits(0, NONE), 1);
        due("both known", seen(0, 1).fits(0, 0), 6);
        due("none fits", seen(1, 0).fits(0, NONE), 0);
        due("none fits", seen(1, 0).fits(0, 0), NONE);
        due("one that can't be fits not", seen(0, 2, NONE).fits(0, NONE), 1);
        FractionLift eight = seen(NONE, NONE, NONE, NONE, NONE, NONE, NONE, 2);
        // 0 0 0 0 2 1 2 1
        due("eight", eight.fits(0, 0), ((2 * 6 + 1) * 6 + 2) * 6 + 1);
        due("eight", eight.fits(0, NONE), 83);
        sentence("ROWS that FIT: how many (k NONE), else BUTTONS of the k-th as digits by 6, the first one the highest. NONE: not "
                + "so many; -2: the TRAY; -6; -4: not 2 to 8 numbers; -3: one is no told floor; SPENT: there are more than "
                + "200,000 ROWS of so many BUTTONS.");
        due("two of three", unknown(3, 2).fits(0, NONE), 9);
        due("the last", unknown(3, 2).fits(0, 8), 2 * 6 + 2);
        due("beyond the last", unknown(3, 2).fits(0, 9), NONE);
        refused("fits(4)", -2, y -> y.fits(4, NONE));
        refused("fits(-1)", -2, y -> y.fits(-1, NONE));
        refused("fits(3)", -6, y -> y.fits(3, NONE));
        refused(() -> unknown(3, 0), "fits of 0", -4, y -> y.fits(0, NONE));
        refused(() -> unknown(3, 1), "fits of 1", -4, y -> y.fits(0, NONE));
        due("fits of 8", unknown(1, 8).fits(0, NONE), 1);
        refused(() -> unknown(1, 9), "fits of 9", -4, y -> y.fits(0, NONE));
        refused(() -> unknown(6, 9), "fits of 9", -4, y -> y.fits(0, 0));
        due("floor 2", seen(NONE, 2).fits(0, NONE), 1);
        refused(() -> seen(NONE, 3), "floor 3", -3, y -> y.fits(0, NONE));
        refused(() -> seen(3, NONE), "floor 3", -3, y -> y.fits(0, 0));
        refused(() -> seen(NONE, -2), "floor -2", -3, y -> y.fits(0, NONE));
        refused(() -> seen(4294967296L, 0), "floor 2 to the 32", -3, y -> y.fits(0, NONE));
        refused(() -> seen(4294967295L, 0), "floor 2 to the 32 less 1", -3, y -> y.fits(0, NONE));
        FractionLift without = told("button:x;");
        tray(without, 0, 0, NONE, NONE);
        due("without told floors", without.fits(0, NONE), 1);
        tray(without, 0, 0, NONE, 0);
        due("without told floors", without.fits(0, NONE), -3);
        due("without buttons", unknown(0, 8).fits(0, NONE), 0);
        due("without buttons", unknown(0, 2).fits(0, 0), NONE);
    }

    private static void spent() {
        sentence("SPENT: there are more than 200,000 ROWS of so many BUTTONS.");
        due("6 by 6", unknown(6, 6).fits(0, NONE), 46656);
        due("6 by 6", unknown(6, 6).fits(0, 46655), 46655);
        due("6 by 6", unknown(6, 6).fits(0, 46656), NONE);
        due("6 by 7", unknown(6, 7).fits(0, NONE), SPENT);
        due("6 by 7", unknown(6, 7).fits(0, 0), SPENT);
        due("6 by 8", unknown(6, 8).fits(0, NONE), SPENT);
        due("5 by 7", unknown(5, 7).fits(0, NONE), 78125);
        due("5 by 8", unknown(5, 8).fits(0, NONE), SPENT);
        due("4 by 8", unknown(4, 8).fits(0, NONE), 65536);
        due("4 by 8", unknown(4, 8).fits(0, 65535), 3 * (1679616 - 1) / 5);
        refused(() -> unknown(6, 7), "SPENT", SPENT, y -> y.fits(0, NONE));
        FractionLift none = unknown(6, 7);
        none.write(0, 6, 3);
        due("the code ahead of SPENT", none.fits(0, NONE), -3);
        due("the code ahead of SPENT", none.sure(0, 0), -3);
    }

    private static void sure() {
        sentence("SURE: a BUTTON that is at one place of all.");
        FractionLift x = seen(NONE, 0, 2);
        due("sure(0)", x.sure(0, 0), NONE);
        due("sure(1)", x.sure(0, 1), NONE);
        due("sure(2)", x.sure(0, 2), 1);
        due("button 0", seen(NONE, 1).sure(0, 0), NONE);
        due("both known", seen(0, 1).sure(0, 0), 1);
        due("both known", seen(0, 1).sure(0, 1), 0);
        due("none fits", seen(1, 0).sure(0, 0), NONE);
        due("none fits", seen(1, 0).sure(0, 1), NONE);
        due("one BUTTON alone", unknown(1, 8).sure(0, 7), 0);
        due("without buttons", unknown(0, 2).sure(0, 0), NONE);
        sentence("SURE at a place. NONE: none is; else as fits() (-3 also for the place).");
        refused(() -> seen(0, 1), "sure(-1)", -3, y -> y.sure(0, -1));
        refused(() -> seen(0, 1), "sure(2)", -3, y -> y.sure(0, 2));
        refused("sure tray", -2, y -> y.sure(4, -1));
        refused("sure tray", -2, y -> y.sure(-1, 0));
        refused("sure missing", -6, y -> y.sure(3, -1));
        refused(() -> unknown(3, 1), "sure of 1", -4, y -> y.sure(0, 5));
        refused(() -> unknown(3, 9), "sure of 9", -4, y -> y.sure(0, 9));
        refused(() -> seen(NONE, 3), "sure floor", -3, y -> y.sure(0, 0));
        due("sure of 8", unknown(1, 8).sure(0, 0), 0);
        refused(() -> unknown(1, 8), "sure(8)", -3, y -> y.sure(0, 8));
        due("SPENT", unknown(6, 7).sure(0, 6), SPENT);
        due("the code ahead of SPENT", unknown(6, 7).sure(0, 7), -3);
        due("the code ahead of SPENT", unknown(6, 7).sure(0, -1), -3);
        due("not SPENT", unknown(5, 7).sure(0, 6), NONE);
    }

    // ---- odds

    private static FractionLift row(String text, long... buttons) {
        FractionLift x = told(text);
        tray(x, 0, 2, buttons);
        return x;
    }

    private static void odds() {
        sentence("ODDS by a ROW: each BUTTON of it sticks by STICK tenths (one that can't be is as if it stuck): of 10 to the power "
                + "of how many, by how many the lift is at a FLOOR behind all.");
        String text = "button:x+1;button:1/x;button:x-4;button:x;stick 3;";
        FractionLift x = row(text, 0, 1, 0);
        due("odds(0)", x.odds(0, 0, 1), 3 * 10 * 3);
        due("odds(1)", x.odds(0, 1, 1), 3 * 10 * 7 + 7 * 10 * 3);
        due("odds(2)", x.odds(0, 2, 1), 7 * 10 * 7);
        due("odds(3)", x.odds(0, 3, 1), 0);
        due("odds(2/2)", x.odds(0, 2, 2), 420);
        due("of 1", row(text, 0).odds(0, 1, 1), 7);
        due("of 1", row(text, 0).odds(0, 0, 1), 3);
        due("can't be", row(text, 2, 2, 2, 2, 2, 2, 2, 2).odds(0, 0, 1), 100000000);
        due("stays", row(text, 3, 3).odds(0, 0, 1), 100);
        due("stick 0", row("button:x+1;", 0, 0).odds(0, 2, 1), 100);
        due("stick 0", row("button:x+1;", 0, 0).odds(0, 1, 1), 0);
        due("stick 9", row("button:x+1;stick 9;", 0, 0).odds(0, 0, 1), 81);
        due("of 8", row("button:x+1/2;stick 1;", 0, 0, 0, 0, 0, 0, 0, 0).odds(0, 4, 1), 43046721);
        due("of 8", row("button:x+1/2;stick 1;", 0, 0, 0, 0, 0, 0, 0, 0).odds(0, 0, 1), 1);
        sentence("ODDS of a FLOOR by a ROW. -2: the TRAY; -6; -4: not 1 to 8 numbers; -3: the FLOOR, one is no BUTTON.");
        refused("odds tray", -2, y -> y.odds(4, 6, 1));
        refused("odds tray", -2, y -> y.odds(-1, 6, 1));
        refused("odds missing", -6, y -> y.odds(3, 6, 1));
        refused(() -> row(text), "odds of 0", -4, y -> y.odds(0, 5, 1));
        refused(() -> row(text, 0, 0, 0, 0, 0, 0, 0, 0, 9), "odds of 9", -4, y -> y.odds(0, 5, 1));
        refused(() -> row(text, 0), "odds floor", -3, y -> y.odds(0, 5, 1));
        refused(() -> row(text, 0), "odds floor", -3, y -> y.odds(0, 1, 0));
        due("odds at TOP", row(text, 0).odds(0, 4, 1), 0);
        refused(() -> row(text, 0, 4), "odds button 4", -3, y -> y.odds(0, 1, 1));
        refused(() -> row(text, 0, -1), "odds button -1", -3, y -> y.odds(0, 1, 1));
        refused(() -> row(text, 4, 0), "odds button 4", -3, y -> y.odds(0, 1, 1));
        due("odds button 3", row(text, 0, 3).odds(0, 1, 1), 70);
        FractionLift far = told(text);
        tray(far, 0, 3, 4294967296L);
        due("odds button 2 to the 32", far.odds(0, 1, 1), -3);
    }

    private static void ends() {
        sentence("At how many FLOORS the lift may be behind a ROW so. Likewise.");
        String text = "button:x+1;button:1/x;button:x-4;button:x;stick 3;";
        due("ends", row(text, 0, 1, 0).ends(0), 3);
        due("one that can't be", row(text, 2).ends(0), 1);
        due("one that stays", row(text, 3).ends(0), 1);
        due("one that leads on", row(text, 0).ends(0), 2);
        due("none sticks", row("button:x+1;", 0, 0, 0).ends(0), 1);
        due("all unlike", row("button:(x+1)/7;stick 1;", 0, 0, 0).ends(0), 4);
        due("all unlike", row("button:(x+1)/3;button:(x+2)/5;button:(x+2)/7;button:x/2;stick 9;at 1/97;", 0, 1, 2, 3).ends(0),
                16);
        due("all unlike", row("button:x/2;button:x/3;button:x/5;button:x/7;button:x/11;button:x/13;stick 1;at 1;",
                0, 1, 2, 3, 4, 5).ends(0), 64);
        due("of 8", row("top 9;button:x/2+16/97;button:x*2/3+7/4;button:x*3+15/97;button:x/2+11/4;button:x*2/3+3;"
                + "button:x/2+3/89;stick 5;at 1;", 0, 2, 5, 1, 4, 3, 0, 5).ends(0), 250);
        refused("ends tray", -2, y -> y.ends(4));
        refused("ends tray", -2, y -> y.ends(-1));
        refused("ends missing", -6, y -> y.ends(3));
        refused(() -> row(text), "ends of 0", -4, y -> y.ends(0));
        refused(() -> row(text, 0, 0, 0, 0, 0, 0, 0, 0, 9), "ends of 9", -4, y -> y.ends(0));
        refused(() -> row(text, 0, 4), "ends button 4", -3, y -> y.ends(0));
        refused(() -> row(text, -1), "ends button -1", -3, y -> y.ends(0));
    }

    public static void main(String[] args) {
        fitting();
        spent();
        sure();
        odds();
        ends();
        finish();
    }
}
