/** The bounds of the text and its faults, and promises 1 to 4: each sentence that names a boundary, on both sides. */
public final class TextBounds extends Bench {
    /** An object that has read texts of all kinds, with and without faults. */
    private static FractionLift worn() {
        String text = "top 9;button:x-1;button:2*x;floor 1 has 9 8 7;floor 2 has 6 5 4;floor 1/2 has 3 2 1;tenant 2;tenant 3;"
                + "stick 8;at 7;";
        FractionLift x = told(text);
        due("house", tell(x, text), 10);
        due("house", tell(x, text), 10);
        due("house with a fault", tell(x, text + "button:1-(x*(x-"), -32);
        return x;
    }

    /** The text is read without a fault, and no other one that was read ahead of it is seen. */
    private static void good(String text, int lines) {
        FractionLift x = new FractionLift();
        FractionLift again = worn();
        for (FractionLift one : new FractionLift[] {x, again}) {
            due("house of " + text, tell(one, text), lines);
            due("fault(0) of " + text, one.fault(0), 0);
            due("fault(1) of " + text, one.fault(1), NONE);
        }
        unchanged("house of " + text, again, x);
    }

    private static void bad(String text, int kind, int place) {
        badOn(new FractionLift(), text, kind, place);
        badOn(worn(), text, kind, place);
        if (place < text.length()) {
            badOn(new FractionLift(), text + " ;stick 10;!", kind, place);
        }
    }

    private static void badOn(FractionLift x, String text, int kind, int place) {
        due("house of " + text, tell(x, text), -30 - kind);
        due("fault(0) of " + text, x.fault(0), kind);
        due("fault(1) of " + text, x.fault(1), place);
    }

    // ---- the whole text

    private static void length() {
        sentence("THE HOUSE is a TEXT of at most 900 bytes");
        String text = times(895, " ") + "at 1;";
        FractionLift x = new FractionLift();
        due("feed", feed(x, text), 900);
        due("house(901)", x.house(901), -3);
        due("house(900)", x.house(900), 1);
        due("at(0)", x.at(0), 1);
        FractionLift shorter = new FractionLift();
        feed(shorter, text);
        due("house(899)", shorter.house(899), -32);
        due("fault(1)", shorter.fault(1), 899);
        FractionLift cut = new FractionLift();
        feed(cut, "attic");
        due("house(2), though the word goes on", cut.house(2), -32);
        due("fault(1)", cut.fault(1), 2);
        feed(cut, "at 31;");
        due("house(4), though the number goes on", cut.house(4), -32);
        due("fault(1)", cut.fault(1), 4);
        FractionLift signs = new FractionLift();
        due("many tokens", tell(signs, "button:x" + times(445, "+0") + ";"), 1);
        fraction("many tokens", signs.leads(0, 3, 2, 0), signs.leads(0, 3, 2, 1), 3, 2);
        bad("button:x" + times(446, "+0"), 2, 900);
    }

    private static void withoutText() {
        sentence("(without one: TOP 4, AT 0, nothing told)");
        isUntold(new FractionLift());
        FractionLift x = fullHouse();
        due("house(0)", x.house(0), 0);
        isUntold(x);
        FractionLift blanks = fullHouse();
        due("house(15)", blanks.house(15), -32);
        due("house of blanks", tell(blanks, times(20, "\n")), 0);
        isUntold(blanks);
    }

    private static void isUntold(FractionLift x) {
        int[] counts = {4, 0, 0, 0, 0, 0, 0, 0, 0};
        for (int what = 0; what < counts.length; what++) {
            due("count(" + what + ")", x.count(what), counts[what]);
        }
        fraction("at", x.at(0), x.at(1), 0, 1);
        due("floors(1)", x.floors(1), 5);
        due("has(0, 4/1)", x.has(0, 4, 1, 0), 0);
        due("has(0, 5/1)", x.has(0, 5, 1, 0), -3);
        due("floor(0, 0)", x.floor(0, 0), -2);
        due("tenant(0, 0)", x.tenant(0, 0), -2);
        due("why(0)", x.why(0), 1);
        due("undo(1)", x.undo(1), -3);
    }

    private static void newObject() {
        sentence("`FractionLift()`: TOP 4, AT 0, nothing told.");
        FractionLift x = new FractionLift();
        isUntold(x);
        due("fault(0)", x.fault(0), 0);
        due("fault(1)", x.fault(1), NONE);
        for (int t = 0; t < 4; t++) {
            due("write(" + t + ", 0, 0)", x.write(t, 0, 0), -6);
        }
        due("restore(0)", x.restore(0), -5);
        due("restore(1)", x.restore(1), -5);
    }

    // ---- lines

    private static void lines() {
        sentence("{ LINE ; }");
        good("", 0);
        good("stick 1;", 1);
        good("stick 1;stick 2;", 2);
        bad("stick 1", 2, 7);
        bad("stick 1;stick 2", 2, 15);
        bad(";", 2, 0);
        bad("stick 1;;", 2, 8);
        sentence("LINE: top N | button : SUM | floor FRACTION has N N N | tenant FRACTION | at FRACTION | stick N.");
        good("top 1;button:x;floor 1 has 1 2 3;tenant 1;at 1;stick 1;", 6);
        bad("top;", 2, 3);
        bad("top x;", 2, 4);
        bad("top 3 3;", 2, 6);
        bad("button x;", 2, 7);
        bad("button;", 2, 6);
        bad("floor has 1 2 3;", 2, 6);
        bad("floor 1 1 2 3;", 2, 8);
        bad("floor 1 has;", 2, 11);
        bad("floor 1 has 1 2;", 2, 15);
        bad("floor 1 has 1 2 3 4;", 2, 18);
        bad("floor 1;", 2, 7);
        bad("tenant;", 2, 6);
        bad("tenant 1 1;", 2, 9);
        bad("tenant 1 has 1 2 3;", 2, 9);
        bad("at;", 2, 2);
        bad("at 1 1;", 2, 5);
        bad("at x;", 2, 3);
        bad("stick;", 2, 5);
        bad("stick 3 3;", 2, 8);
        bad("has 1 2 3;", 2, 0);
        bad("x;", 2, 0);
        bad("7;", 2, 0);
        bad("tops 3;", 2, 0);
        bad("to 3;", 2, 0);
        String[] words = {"top", "button", "floor", "has", "tenant", "at", "stick", "x", "y"};
        for (String word : words) {
            if (!word.equals("has")) {
                bad("floor 1 " + word + " 1 2 3;", 2, 8);
            }
            if (!word.equals("x") && !word.equals("top")) {
                bad("button:" + word + ";", 2, 7);
            }
            bad("at " + word + ";", 2, 3);
            bad("stick 1 " + word, 2, 8);
        }
        sentence("FRACTION: N [ / N ].");
        good("at 1;", 1);
        good("at 1/2;", 1);
        bad("at /2;", 2, 3);
        bad("at 1/;", 2, 5);
        bad("at 1/2/2;", 2, 6);
    }

    private static void sums() {
        sentence("SUM: TERM { + TERM | - TERM }; TERM: ATOM { * ATOM | / ATOM }; ATOM: N, x, top, ( SUM ).");
        good("button:0;button:999;button:x;button:top;button:(0);", 5);
        good("button:x+1-2*3/4+(x-top)*(2);", 1);
        bad("button:;", 2, 7);
        bad("button:();", 2, 8);
        bad("button:-x;", 2, 7);
        bad("button:+x;", 2, 7);
        bad("button:*x;", 2, 7);
        bad("button:/x;", 2, 7);
        bad("button:x+;", 2, 9);
        bad("button:x*;", 2, 9);
        bad("button:x+-1;", 2, 9);
        bad("button:x x;", 2, 9);
        bad("button:2x;", 2, 8);
        bad("button:(x)x;", 2, 10);
        bad("button:x(x);", 2, 8);
        bad("button:(x+1;", 2, 11);
        bad("button:(x+1", 2, 11);
        bad("button:x+1);", 2, 10);
        bad("button:(x+);", 2, 10);
        bad("button:x:", 2, 8);
        bad("button:at;", 2, 7);
        bad("button:y;", 2, 7);
        bad("button:x+", 2, 9);
        bad("button:", 2, 7);
    }

    private static void nested() {
        sentence("At most six ( within one another.");
        good("button:((((((x))))));", 1);
        bad("button:(((((((x)))))));", 4, 13);
        good("button:((((((x)+(x))))))+((((((x))))));", 1);
        bad("button:((((((x)+((x)))))));", 4, 17);
        FractionLift x = told("button:1+(1+(1+(1+(1+(1+(x)/2)/2)/2)/2)/2)/2;");
        // from 0: 1, 3/2, 7/4, 15/8, 31/16, 63/32
        fraction("six are reckoned", x.leads(0, 0, 1, 0), x.leads(0, 0, 1, 1), 63, 32);
        bad("button:x*(x*(x*(x*(x*(x*(x*(x", 4, 27);
    }

    // ---- the kinds of lines

    private static void topLine() {
        sentence("top: TOP 1 to 9, ahead of all floors, tenants, at.");
        bad("top 0;", 3, 4);
        due("top 1", told("top 1;").count(0), 1);
        due("top 9", told("top 9;").count(0), 9);
        bad("top 10;", 3, 4);
        bad("top 999;", 3, 4);
        bad("floor 0 has 0 0 0;top 3;", 2, 18);
        bad("tenant 0;top 3;", 2, 9);
        bad("at 0;top 3;", 2, 5);
        bad("at 0;top 0;", 2, 5);
        bad("at 0;top", 2, 5);
        good("stick 1;button:x;top 3;top 5;floor 5 has 0 0 0;tenant 5;at 5;", 7);
        due("top inside a sum behind an at", told("at 0;button:top;").leads(0, 0, 1, 0), 4);
    }

    private static void manyButtons() {
        sentence("button: 6 at most, numbered from 0 on.");
        String six = "top 5;button:0;button:1;button:2;button:3;button:4;button:5;";
        FractionLift x = told(six);
        due("count(1)", x.count(1), 6);
        for (int b = 0; b < 6; b++) {
            due("leads(" + b + ")", x.leads(b, 0, 1, 0), b);
        }
        due("leads(6)", x.leads(6, 0, 1, 0), -11);
        due("leads(-1)", x.leads(-1, 0, 1, 0), -11);
        bad(six + "button:6;", 4, six.length());
        bad(six + "button", 4, six.length());
        good(six + "at 0;", 8);
    }

    private static void manyFloors() {
        sentence("floor: 8 at most, numbered from 0 on, each FRACTION told once;");
        StringBuilder eight = new StringBuilder("top 9;");
        for (int k = 0; k < 8; k++) {
            eight.append("floor ").append(k).append(" has ").append(k).append(" 0 0;");
        }
        FractionLift x = told(eight.toString());
        due("count(2)", x.count(2), 8);
        for (int k = 0; k < 8; k++) {
            due("floor(" + k + ", 0)", x.floor(k, 0), k);
            due("floor(" + k + ", 2)", x.floor(k, 2), k);
        }
        due("floor(8, 0)", x.floor(8, 0), -2);
        bad(eight + "floor 8 has 8 0 0;", 4, eight.length());
        bad(eight + "floor 7 has 8 0 0;", 4, eight.length());
        bad(eight + "floor", 4, eight.length());
        good("floor 1/2 has 0 0 0;floor 1/3 has 0 0 0;floor 2 has 0 0 0;", 3);
        bad("floor 1/2 has 0 0 0;floor 2/4 has 0 0 0;", 3, 30);
        bad("floor 0 has 0 0 0;floor 0/9 has 0 0 0;", 3, 28);
        sentence("STUFFS 0 to 2 that it HAS, 0 to 99 each.");
        FractionLift most = told("floor 1 has 0 99 0;floor 2 has 99 0 99;");
        int[] has = {0, 99, 0, 99, 0, 99};
        for (int i = 0; i < 6; i++) {
            due("floor(" + i / 3 + ", " + (2 + i % 3) + ")", most.floor(i / 3, 2 + i % 3), has[i]);
        }
        bad("floor 1 has 100 0 0;", 3, 12);
        bad("floor 1 has 0 100 0;", 3, 14);
        bad("floor 1 has 0 0 100;", 3, 16);
        bad("floor 1 has 0 0 -1;", 2, 16);
    }

    private static void manyTenants() {
        sentence("tenant: 6 at most, numbered from 0 on.");
        String six = "top 5;tenant 0;tenant 1;tenant 2;tenant 3;tenant 4;tenant 5;";
        FractionLift x = told(six);
        due("count(3)", x.count(3), 6);
        for (int t = 0; t < 6; t++) {
            due("tenant(" + t + ", 0)", x.tenant(t, 0), t);
        }
        due("tenant(6, 0)", x.tenant(6, 0), -2);
        bad(six + "tenant 0;", 4, six.length());
        bad(six + "tenant", 4, six.length());
        good("tenant 1;tenant 2/2;", 2);
    }

    private static void atAndStick() {
        sentence("at: where the lift is (0 without).");
        FractionLift x = told("at 3/2;");
        fraction("at 3/2", x.at(0), x.at(1), 3, 2);
        FractionLift without = told("stick 2;");
        fraction("without", without.at(0), without.at(1), 0, 1);
        sentence("stick: 0 to 9 tenths (0).");
        due("stick 0", told("stick 0;").count(4), 0);
        due("stick 9", told("stick 9;").count(4), 9);
        bad("stick 10;", 3, 6);
        due("without", told("at 1;").count(4), 0);
        sentence("Later ones of top, at, stick strike.");
        FractionLift later = told("top 2;top 7;stick 3;stick 5;at 6;at 1/3;");
        due("count(0)", later.count(0), 7);
        due("count(4)", later.count(4), 5);
        fraction("at", later.at(0), later.at(1), 1, 3);
        bad("top 9;top 2;at 3;", 3, 16);
        good("top 2;top 9;at 3;", 3);
    }

    private static void fractions() {
        sentence("FRACTIONS: the first N 0 to 999, the second 1 to 99 (1 without), not above TOP.");
        good("at 0;", 1);
        bad("at 999/99;", 3, 9);
        bad("at 1000/99;", 1, 3);
        bad("at 1/0;", 3, 5);
        bad("at 0/0;", 3, 5);
        FractionLift whole = told("at 2/1;tenant 1/99;floor 2 has 0 0 0;");
        fraction("2/1", whole.at(0), whole.at(1), 2, 1);
        fraction("1/99", whole.tenant(0, 0), whole.tenant(0, 1), 1, 99);
        fraction("2", whole.floor(0, 0), whole.floor(0, 1), 2, 1);
        bad("at 1/100;", 3, 5);
        bad("at 0/100;", 3, 5);
        good("at 4;tenant 4;floor 4 has 0 0 0;", 3);
        bad("at 5;", 3, 4);
        bad("tenant 5;", 3, 8);
        bad("floor 5 has 0 0 0;", 3, 8);
        good("at 396/99;", 1);
        bad("at 397/99;", 3, 9);
        good("top 9;at 891/99;", 2);
        bad("top 9;at 892/99;", 3, 15);
        good("top 1;at 99/99;", 2);
        bad("top 1;at 100/99;", 3, 15);
        FractionLift terms = told("at 6/4;");
        fraction("6/4", terms.at(0), terms.at(1), 3, 2);
    }

    // ---- tokens

    private static void tokens() {
        sentence("TOKENS, as long as they go on, between them blanks (10, 32):");
        good("\n top\n 9 \n;\n\n at 1 / 2 ; ", 2);
        good("top9;at1/2;", 2);
        good("floor1has1 2 3;", 1);
        bad("to p 9;", 2, 0);
        bad("top9at", 2, 4);
        bad("topat 9;", 2, 0);
        bad("stick 1 2;", 2, 8);
        bad("stick 12;", 3, 6);
        for (int c : new int[] {0, 9, 11, 13, 31, 33, 127, 128, 138, 160, 255}) {
            bad("at 1;" + (char) c, 1, 5);
        }
        sentence("words (small letters), N (1 to 3 digits), the signs ; : + - * / ( ).");
        for (int c = 0; c < 256; c++) {
            boolean begins = c >= 'a' && c <= 'z' || c >= '0' && c <= '9' || ";:+-*/()".indexOf(c) >= 0;
            if (c == 10 || c == 32) {
                good(String.valueOf((char) c), 0);
            } else {
                bad(String.valueOf((char) c), begins ? 2 : 1, 0);
            }
        }
        bad("toP 3;", 2, 0);
        bad("topP 3;", 1, 3);
        good("at 3;", 1);
        good("at 03;", 1);
        good("at 003;", 1);
        bad("at 0003;", 1, 3);
    }

    private static void firstFault() {
        sentence("FAULTS, the first along the text, of one TOKEN the least kind:");
        bad("stick 10;,", 3, 6);
        bad("stick x;stick 10;,", 2, 6);
        bad("at 9 ,", 1, 5);
        bad("at 9 at;", 2, 5);
        bad("at 9 ;", 3, 5);
        bad("at 9/0,", 3, 5);
        bad("button:((((((x(", 2, 14);
        bad("button:(((((((x;", 4, 13);
        bad("floor 1 has 0 0 0;floor 1;", 2, 25);
        bad("floor 1 has 0 0 0;floor 1 HAS 0 0 0;", 1, 26);
        sentence("1 no TOKEN begins so (4 digits and more: at their first).");
        bad("stick 123;", 3, 6);
        bad("stick 1234;", 1, 6);
        bad("stick 12345;", 1, 6);
        bad("stick 1;.", 1, 8);
        sentence("2 it can't stand there (the end: the text's length; top behind a floor, tenant, at: at its first TOKEN).");
        bad("at", 2, 2);
        bad("at   ", 2, 5);
        bad("at 1 \n", 2, 6);
        bad("at 9", 2, 4);
        bad("floor 1 has 0 0 0; top 1;", 2, 19);
        bad("tenant 1; top 1;", 2, 10);
        bad("at 1; top 1;", 2, 6);
        sentence("3 an N out of its bounds; the TOKEN behind a FRACTION that is above TOP, or of a floor told already "
                + "(has, or ;).");
        bad("at 9  ;", 3, 6);
        bad("tenant 9  ;", 3, 10);
        bad("floor 9  has 0 0 0;", 3, 9);
        bad("floor 9/2  has 100 0 0;", 3, 11);
        bad("floor 1 has 0 0 0;floor 2/2  has 100 0 0;", 3, 29);
        sentence("4 the first TOKEN of a 7th button, a 9th floor, a 7th tenant; a seventh (.");
        bad(times(6, "button:x;") + "  button:x;", 4, 56);
        bad(times(6, "tenant 1;") + "  tenant 9;", 4, 56);
        bad("button:(((((( (", 4, 14);
        good(times(6, "button:x;") + times(6, "tenant 1;"), 12);
    }

    // ---- promises 2 to 4

    private static FractionLift fullTape() {
        FractionLift x = fullHouse();
        feed(x, times(880, " "));
        return x;
    }

    private static void feeding() {
        sentence("Twenty bytes come behind those on THE TAPE, the highest of each int first: how many it has.");
        FractionLift x = new FractionLift();
        due("feed", x.feed(0x61742032, 0x2f333b73, 0x7469636b, 0x20373b74, 0x6f702033), 20);
        due("feed", x.feed(0x3b202020, 0x20202020, 0x20202020, 0x20202020, 0x20202020), 40);
        due("count(7)", x.count(7), 40);
        due("house(21)", x.house(21), -32);
        due("fault(1)", x.fault(1), 15);
        due("feed", x.feed(0x20202020, 0x20202020, 0x20202020, 0x20202020, 0xffffffff), 20);
        due("house(16)", x.house(16), 0);
        x.feed(0x20202020, 0x20202020, 0x20202020, 0x20202020, 0x200a20ff);
        due("house(20)", x.house(20), -31);
        due("fault(1)", x.fault(1), 19);
        sentence("-5: it would have more than 900.");
        FractionLift full = new FractionLift();
        for (int i = 1; i <= 45; i++) {
            due("feed " + i, full.feed(0x20202020, 0x20202020, 0x20202020, 0x20202020, 0x20202020), 20 * i);
        }
        due("feed 46", full.feed(0, 0, 0, 0, 0), -5);
        due("count(7)", full.count(7), 900);
        due("house(900)", full.house(900), 0);
        due("feed", full.feed(0, 0, 0, 0, 0), 20);
        refused(TextBounds::fullTape, "feed", -5, x1 -> x1.feed(0, 0, 0, 0, 0));
    }

    private static void reading() {
        sentence("The first n bytes of THE TAPE (which is empty then) are THE HOUSE, nothing can be UNDONE: how many "
                + "LINES (all stays with a FAULT).");
        FractionLift x = fullHouse();
        due("count(5)", x.count(5), 6);
        due("house(9)", x.house(9), 1);
        due("count(7)", x.count(7), 0);
        due("count(5)", x.count(5), 0);
        due("undo(1)", x.undo(1), -3);
        due("count(4)", x.count(4), 4);
        due("count(6)", x.count(6), 0);
        due("count(8)", x.count(8), 1);
        fraction("at", x.at(0), x.at(1), 0, 1);
        allStays();
        sentence("-3: n is below 0 or above what there is (THE TAPE stays); -30 less the FAULT.");
        refused("house(-1)", -3, y -> y.house(-1));
        refused("house(21)", -3, y -> y.house(21));
        refused("house(least)", -3, y -> y.house(Integer.MIN_VALUE));
        refused("house(most)", -3, y -> y.house(Integer.MAX_VALUE));
        due("house(1) of nothing", new FractionLift().house(1), -3);
        due("house(0) of nothing", new FractionLift().house(0), 0);
        FractionLift all = fullHouse();
        due("house(20)", all.house(20), 2);
        String[] texts = {"!", "at", "stick 10;", times(6, "button:x;") + "button"};
        for (int kind = 1; kind <= 4; kind++) {
            due("house", tell(new FractionLift(), texts[kind - 1]), -30 - kind);
        }
    }

    /** One reads a text with a fault, the other one more of them ahead of it: all stays as in a third that reads none. */
    private static void allStays() {
        FractionLift once = fullHouse();
        due("house(15)", once.house(15), -32);
        due("count(7)", once.count(7), 0);
        FractionLift twice = fullHouse();
        twice.house(15);
        due("a fault", tell(twice, "top 3;button:x*2;at 1;tenant 2;floor 2 has 1 1 1;stick 9;at 1"), -32);
        due("a fault", tell(twice, "stick 4; at 7/9"), -32);
        FractionLift never = fullHouse();
        for (int what = 0; what < 9; what++) {
            due("count(" + what + ")", once.count(what), what == 7 ? 0 : never.count(what));
        }
        fraction("at", once.at(0), once.at(1), never.at(0), never.at(1));
        due("undo(6)", once.undo(6), 0);
        due("undo(6)", twice.undo(6), 0);
        due("undo(6)", never.undo(6), 0);
        fraction("at", once.at(0), once.at(1), never.at(0), never.at(1));
        due("leads", once.leads(0, 2, 1, 0), 3);
        due("leads", once.leads(1, 2, 1, 0), 1);
        unchanged("house", once, twice);
    }

    /** What one long text needs is there for the next one, too, and so it is behind a fault. */
    private static void longTexts() {
        sentence("The first n bytes of THE TAPE (which is empty then) are THE HOUSE,");
        FractionLift x = new FractionLift();
        String zero = times(220, "x-x+");
        for (int k = 1; k <= 4; k++) {
            due("a long text", tell(x, "button:" + zero + k + ";"), 1);
            fraction("leads", x.leads(0, 7, 3, 0), x.leads(0, 7, 3, 1), k, 1);
            due("a long text with a fault", tell(x, "button:" + zero + "8"), -32);
            fraction("leads as before", x.leads(0, 7, 3, 0), x.leads(0, 7, 3, 1), k, 1);
        }
    }

    private static void faults() {
        sentence("Of the latest house() that was read, what 0: its FAULT (0), 1: its place (NONE). NONE for others.");
        FractionLift x = new FractionLift();
        due("fault(-1)", x.fault(-1), NONE);
        due("fault(2)", x.fault(2), NONE);
        tell(x, "stick 10;");
        due("fault(-1)", x.fault(-1), NONE);
        due("fault(2)", x.fault(2), NONE);
        fraction("fault", x.fault(0), x.fault(1), 3, 6);
        due("house(1)", x.house(1), -3);
        due("house(-1)", x.house(-1), -3);
        fraction("fault, one more was not read", x.fault(0), x.fault(1), 3, 6);
        x.image(0);
        x.restore(0);
        fraction("fault, behind an image", x.fault(0), x.fault(1), 3, 6);
        due("house(0)", x.house(0), 0);
        fraction("fault", x.fault(0), x.fault(1), 0, NONE);
        tell(x, "?");
        fraction("fault at 0", x.fault(0), x.fault(1), 1, 0);
    }

    public static void main(String[] args) {
        length();
        withoutText();
        newObject();
        lines();
        sums();
        nested();
        topLine();
        manyButtons();
        manyFloors();
        manyTenants();
        atAndStick();
        fractions();
        tokens();
        firstFault();
        feeding();
        reading();
        longTexts();
        faults();
        finish();
    }
}
