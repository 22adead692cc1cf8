/** The promises one by one: ordinary inputs, the edges that the document names, wrong inputs. */
public final class Promises extends Bench {
    private static void newObject() {
        promise(1);
        FractionLift x = new FractionLift();
        int[] counts = {4, 0, 0, 0, 0, 0, 0, 0, 0};
        for (int i = 0; i < counts.length; i++) {
            due("count(" + i + ")", x.count(i), counts[i]);
        }
        fraction("at", x.at(0), x.at(1), 0, 1);
        due("fault(0)", x.fault(0), 0);
        due("fault(1)", x.fault(1), FractionLift.NONE);
        due("restore(1)", x.restore(1), -5);
        due("write(3, 0, 0)", x.write(3, 0, 0), -6);
    }

    private static void feeding() {
        promise(2);
        FractionLift x = new FractionLift();
        for (int i = 1; i <= 45; i++) {
            due("feed " + i, x.feed(0x61742031, 0x3b202020, 0x20202020, 0x20202020, 0x20202020), 20 * i);
        }
        due("feed 46", x.feed(0, 0, 0, 0, 0), -5);
        due("count(7)", x.count(7), 900);
        due("house(900)", x.house(900), 45);
        fraction("at", x.at(0), x.at(1), 1, 1);
        due("feed", x.feed(0xff000000, 0, 0, 0, 0), 20);
        due("house(1)", x.house(1), -31);
    }

    private static void reading() {
        promise(3);
        FractionLift x = told("top 5; button: x + 1; floor 9/2 has 1 2 3; tenant 4/6; at 2/4; stick 3;\n");
        int[] counts = {5, 1, 1, 1, 3, 0, 0, 0, 6};
        for (int i = 0; i < counts.length; i++) {
            due("count(" + i + ")", x.count(i), counts[i]);
        }
        fraction("at", x.at(0), x.at(1), 1, 2);
        due("press(0)", x.press(0), 1);
        x.feed(0, 0, 0, 0, 0);
        due("house(-1)", x.house(-1), -3);
        due("house(21)", x.house(21), -3);
        due("count(7)", x.count(7), 20);
        due("house(20)", x.house(20), -31);
        due("count(7)", x.count(7), 0);
        due("count(5)", x.count(5), 1);
        fraction("at", x.at(0), x.at(1), 3, 2);
        due("house(0)", x.house(0), 0);
        due("count(0)", x.count(0), 4);
        due("count(4)", x.count(4), 0);
        due("count(5)", x.count(5), 0);
        due("count(6)", x.count(6), 0);
        due("later ones", tell(x, "at 1;stick 1;at 3;stick 0;"), 4);
        due("at(0)", x.at(0), 3);
        due("count(4)", x.count(4), 0);
        due("two tops", tell(x, "top 9;top 2;at 2;"), 3);
        due("count(0)", x.count(0), 2);
        due("the later top counts", tell(x, "top 9;top 2;at 3;"), -33);
        due("words and numbers side by side", tell(x, "top4;at1/2;"), 2);
        due("top is TOP however late", tell(x, "button:top;top 7;"), 2);
        due("leads", x.leads(0, 0, 1, 0), 7);
    }

    private static void faultOf(String text, int kind, int place) {
        FractionLift x = new FractionLift();
        due("house of " + text, tell(x, text), kind == 0 ? x.count(8) : -30 - kind);
        due("fault(0) of " + text, x.fault(0), kind);
        due("fault(1) of " + text, x.fault(1), place);
    }

    private static void faults() {
        promise(4);
        FractionLift x = new FractionLift();
        due("fault(2)", x.fault(2), FractionLift.NONE);
        due("fault(-1)", x.fault(-1), FractionLift.NONE);
        faultOf("", 0, -1);
        faultOf(" \n ", 0, -1);
        faultOf(";", 2, 0);
        faultOf("at 1;\t", 1, 5);
        faultOf("bt 1;", 2, 0);
        faultOf("z", 2, 0);
        faultOf("{", 1, 0);
        faultOf("`", 1, 0);
        faultOf("has 3;", 2, 0);
        faultOf("x 3;", 2, 0);
        faultOf("floor 1 stick 1 2 3;", 2, 8);
        faultOf("floor 1/2;", 2, 9);
        faultOf("button:y;", 2, 7);
        faultOf("button:stick;", 2, 7);
        faultOf("at 1.", 1, 4);
        faultOf("at 1,", 1, 4);
        faultOf("At 1;", 1, 0);
        faultOf("at 0001;", 1, 3);
        faultOf("at 001;", 0, -1);
        faultOf("1000", 1, 0);
        faultOf("at 1  ", 2, 6);
        faultOf("at 1 at", 2, 5);
        faultOf("at 9 has", 2, 5);
        faultOf("at 9 ,", 1, 5);
        faultOf("at 9", 2, 4);
        faultOf("at 9 ;", 3, 5);
        faultOf("at 4/1;", 0, -1);
        faultOf("at 1/2/3;", 2, 6);
        faultOf("at 9/0;", 3, 5);
        faultOf("at 999/99;", 3, 9);
        faultOf("tenant 401/99;", 3, 13);
        faultOf("tenant 396/99;", 0, -1);
        faultOf("floor 0 has 1 2 3;floor 0/7 has 1 2 3;", 3, 28);
        faultOf("floor 0 has 1 2 3;floor 0/7 haz 1 2 3;", 2, 28);
        faultOf("floor 1 has 1 2 99;", 0, -1);
        faultOf("floor 1 has 1 2 100;", 3, 16);
        faultOf("floor 1 has 1 2 3 4;", 2, 18);
        faultOf("top 9;top 1;at 1;", 0, -1);
        faultOf("top 1;at 1;top 1;", 2, 11);
        faultOf("floor 1 has 1 2 3;top 1;", 2, 18);
        faultOf("tenant 1;top", 2, 9);
        faultOf("stick 10;", 3, 6);
        faultOf("top 0;", 3, 4);
        faultOf("button:x;top 1;", 0, -1);
        faultOf("button:();", 2, 8);
        faultOf("button:-x;", 2, 7);
        faultOf("button:x x;", 2, 9);
        faultOf("button:x);", 2, 8);
        faultOf("button:(x;", 2, 9);
        faultOf("button:((((((x))))));", 0, -1);
        faultOf("button:(((((((x)))))));", 4, 13);
        faultOf("button:((((((x))))))+(x);", 0, -1);
        faultOf("button:has;", 2, 7);
        faultOf("button:xx;", 2, 7);
        faultOf("button:x", 2, 8);
        faultOf("button:x;button:x;button:x;button:x;button:x;button:x;", 0, -1);
        faultOf("button:x;button:x;button:x;button:x;button:x;button:x;button", 4, 54);
        faultOf("tenant 1;tenant 1;tenant 1;tenant 1;tenant 1;tenant 1;tenant 1;", 4, 54);
        due("house(1)", x.house(1), -3);
        due("fault(0)", x.fault(0), 0);
        x.feed(0x61742031, 0x3030303b, 0, 0, 0);
        due("at 100, cut", x.house(6), -32);
        due("fault(1)", x.fault(1), 6);
        tell(x, "at");
        due("house(1)", x.house(1), -3);
        due("fault(1)", x.fault(1), 2);
        tell(x, "at 1;");
        due("fault(0)", x.fault(0), 0);
        due("fault(1)", x.fault(1), FractionLift.NONE);
    }

    private static void places() {
        promise(5);
        FractionLift x = told("at 6/4;floor 3 has 1 2 3;floor 1/2 has 4 5 6;tenant 0/9;tenant 10/4;");
        fraction("at", x.at(0), x.at(1), 3, 2);
        due("at(2)", x.at(2), -2);
        due("at(-1)", x.at(-1), -2);
        promise(6);
        int[] of0 = {3, 1, 1, 2, 3, 1};
        int[] of1 = {1, 2, 4, 5, 6, 0};
        for (int i = 0; i < 6; i++) {
            due("floor(0, " + i + ")", x.floor(0, i), of0[i]);
            due("floor(1, " + i + ")", x.floor(1, i), of1[i]);
        }
        due("floor(2, 0)", x.floor(2, 0), -2);
        due("floor(-1, 0)", x.floor(-1, 0), -2);
        due("floor(0, 6)", x.floor(0, 6), -2);
        due("floor(0, -1)", x.floor(0, -1), -2);
        promise(7);
        fraction("tenant 0", x.tenant(0, 0), x.tenant(0, 1), 0, 1);
        fraction("tenant 1", x.tenant(1, 0), x.tenant(1, 1), 5, 2);
        due("tenant(2, 0)", x.tenant(2, 0), -2);
        due("tenant(-1, 0)", x.tenant(-1, 0), -2);
        due("tenant(0, 2)", x.tenant(0, 2), -2);
    }

    private static void buttons() {
        promise(8);
        FractionLift x = told("button:1/x;button:999*999*999*999;button:x-1;button:x*2;button:999*999*999*999/0;"
                + "button:1/0+999*999*999*999;");
        int[] why = {2, 3, 4, 0, 3, 2, 1};
        for (int i = 0; i < why.length; i++) {
            due("why(" + i + ")", x.why(i), why[i]);
        }
        due("why(-1)", x.why(-1), 1);
        promise(9);
        fraction("leads(0)", x.leads(0, 4, 6, 0), x.leads(0, 4, 6, 1), 3, 2);
        due("leads what", x.leads(9, -1, 1, 2), -2);
        due("leads floor", x.leads(9, -1, 1, 1), -3);
        due("leads button", x.leads(9, 1, 1, 1), -11);
        due("leads(0, 1, 5)", x.leads(0, 1, 5, 0), -14);
        due("leads(0, 0, 1)", x.leads(0, 0, 1, 0), -12);
        due("leads(1, 0, 1)", x.leads(1, 0, 1, 0), -13);
        FractionLift y = told("button:x-1-1;button:8/2/2*x;button:2+3*x-1;button:(2-x)*(2-x)-(0-x)/2;"
                + "button:(x/999)/999;button:1*999*999*999*100/(999*999*999*100)*x;");
        fraction("from the left", y.leads(0, 7, 2, 0), y.leads(0, 7, 2, 1), 3, 2);
        fraction("over and over", y.leads(1, 1, 2, 0), y.leads(1, 1, 2, 1), 1, 1);
        fraction("times first", y.leads(2, 1, 2, 0), y.leads(2, 1, 2, 1), 5, 2);
        fraction("below 0 on the way", y.leads(3, 3, 1, 0), y.leads(3, 3, 1, 1), 5, 2);
        due("a lower number of 998001", y.leads(4, 1, 1, 1), 998001);
        due("a lower number above 1000000", y.leads(4, 1, 2, 1), -14);
        due("on the way", y.leads(5, 1, 1, 1), -13);
        limits();
        due("1000000 is a floor's number", y.leads(0, 999999, 1000000, 0), -14);
        due("as lower number", x.leads(3, 1, 1000000, 1), 500000);
        due("1000001 is none", x.leads(3, 1, 1000001, 1), -3);
        due("in any terms", x.leads(3, 1000002, 1000002, 0), 2);
    }

    /** On the way 1,000,000,000 can be, 1,000,000,001 can't, above and below. */
    private static void limits() {
        String big = "500*2*500*2*500*2";
        FractionLift x = told("button:" + big + "/500/500/500/8*x;button:(0-" + big + ")/500/500/500/8+x+1;"
                + "button:(" + big + "+1)*0;button:1/500/2/500/2/500/2*0;button:1/7/11/13/19/(52*999+631)*0;"
                + "button:(0-1-" + big + ")*0;");
        fraction("above", x.leads(0, 3, 2, 0), x.leads(0, 3, 2, 1), 3, 2);
        fraction("above, with a sign", x.leads(1, 3, 2, 0), x.leads(1, 3, 2, 1), 3, 2);
        due("above, more", x.leads(2, 1, 1, 0), -13);
        due("below", x.leads(3, 1, 1, 0), 0);
        due("below, more", x.leads(4, 1, 1, 0), -13);
        due("above, more, with a sign", x.leads(5, 1, 1, 0), -13);
    }

    private static void pressing() {
        promise(10);
        FractionLift x = told("top 9;button:x+1/9;button:1/x;button:x-9;button:999*999*999*999;");
        due("press(1)", x.press(1), -12);
        due("press(2)", x.press(2), -14);
        due("press(3)", x.press(3), -13);
        due("press(4)", x.press(4), -11);
        due("press(-1)", x.press(-1), -11);
        due("count(6)", x.count(6), 0);
        for (int i = 1; i <= 15; i++) {
            due("press(0)", x.press(0), Math.min(i, 12));
        }
        fraction("at", x.at(0), x.at(1), 5, 3);
        promise(11);
        due("undo(0)", x.undo(0), -3);
        due("undo(13)", x.undo(13), -3);
        due("undo(-1)", x.undo(-1), -3);
        due("undo(2)", x.undo(2), 10);
        fraction("at", x.at(0), x.at(1), 13, 9);
        due("undo(11)", x.undo(11), -3);
        due("undo(10)", x.undo(10), 0);
        fraction("at", x.at(0), x.at(1), 1, 3);
        due("undo(1)", x.undo(1), -3);
        due("count(6)", x.count(6), 15);
    }

    private static void rows() {
        promise(12);
        FractionLift x = told("button:x+1;button:1/(x-2);button:x/2;");
        due("judge missing", x.judge(0, 0), -6);
        due("judge what", x.judge(0, 4), -2);
        due("judge tray", x.judge(4, 0), -2);
        due("judge tray", x.judge(-1, 0), -2);
        x.numbers(0, 0, 0);
        due("judge of 0", x.judge(0, 0), -4);
        x.numbers(0, 0, 9);
        due("judge of 9", x.judge(0, 0), -4);
        tray(x, 0, 3, 0, 0, 1, 0);
        int[] stopped = {2, 2, 2, 1};
        for (int i = 0; i < 4; i++) {
            due("judge(0, " + i + ")", x.judge(0, i), stopped[i]);
        }
        tray(x, 1, 0, 0, 2, 0, 0, 2, 2, 0, 2);
        int[] whole = {-1, 0, 13, 16};
        for (int i = 0; i < 4; i++) {
            due("judge(1, " + i + ")", x.judge(1, i), whole[i]);
        }
        tray(x, 2, 3, 4294967296L);
        due("judge of 2 to the 32", x.judge(2, 1), 1);
        promise(13);
        due("perform(3)", x.perform(3), -6);
        due("perform(4)", x.perform(4), -2);
        x.numbers(3, 0, 9);
        due("perform of 9", x.perform(3), -4);
        due("perform(2)", x.perform(2), 0);
        due("perform(0)", x.perform(0), 2);
        fraction("at", x.at(0), x.at(1), 2, 1);
        due("count(5)", x.count(5), 2);
        due("count(6)", x.count(6), 2);
        due("undo(1)", x.undo(1), 1);
        due("at(0)", x.at(0), 1);
    }

    private static void days() {
        promise(14);
        FractionLift x = new FractionLift();
        due("day(1, 0)", x.day(1, 0), -3);
        due("day(1, 61)", x.day(1, 61), -3);
        due("day(1, 60)", x.day(1, 60), -5);
        tell(x, "top 9;button:x+1/97;button:x+1;stick 4;");
        int seed = -77;
        int n = 0;
        int up = 0;
        int draw = seed;
        for (int i = 0; i < 9; i++) {
            draw = 1103515245 * draw + 12345;
            int b = (draw >>> 16) % 2;
            draw = 1103515245 * draw + 12345;
            if ((draw >>> 16) % 10 >= 4) {
                n++;
                up += b == 0 ? 1 : 97;
            }
        }
        due("day", x.day(seed, 9), n);
        due("at", (long) x.at(0) * 97 / x.at(1), up);
        due("count(6)", x.count(6), n);
        due("count(5)", x.count(5), n);
        FractionLift still = told("button:x-1;");
        due("none can be", still.day(3, 60), 0);
    }

    private static void stuffs() {
        promise(15);
        FractionLift x = told("floor 3 has 10 50 7;floor 1 has 20 40 7;floor 1/2 has 0 90 7;");
        fraction("has told", x.has(0, 2, 2, 0), x.has(0, 2, 2, 1), 20, 1);
        fraction("has below", x.has(0, 1, 4, 0), x.has(0, 1, 4, 1), 0, 1);
        fraction("has above", x.has(1, 4, 1, 0), x.has(1, 4, 1, 1), 50, 1);
        fraction("has between", x.has(0, 4, 3, 0), x.has(0, 4, 3, 1), 55, 3);
        fraction("has between", x.has(1, 2, 3, 0), x.has(1, 2, 3, 1), 220, 3);
        fraction("has far", x.has(1, 700001, 1000000, 0), x.has(1, 700001, 1000000, 1), 699999, 10000);
        FractionLift same = told("floor 1/2 has 9 0 0;floor 1/4 has 3 0 0;");
        fraction("has between", same.has(0, 1, 3, 0), same.has(0, 1, 3, 1), 5, 1);
        due("has stuff", x.has(3, -1, 1, 0), -2);
        due("has stuff", x.has(-1, -1, 1, 0), -2);
        due("has what", x.has(0, -1, 1, 2), -2);
        due("has floor", x.has(0, 5, 1, 0), -3);
        promise(16);
        fraction("where 10", x.where(0, 10, 0), x.where(0, 10, 1), 3, 4);
        fraction("where 0", x.where(0, 0, 0), x.where(0, 0, 1), 0, 1);
        fraction("where 19", x.where(0, 19, 0), x.where(0, 19, 1), 39, 40);
        fraction("where 43", x.where(1, 43, 0), x.where(1, 43, 1), 97, 100);
        fraction("where 7", x.where(2, 7, 0), x.where(2, 7, 1), 0, 1);
        due("where 8", x.where(2, 8, 0), -1);
        due("where 39", x.where(1, 39, 0), -1);
        due("where stuff", x.where(3, 100, 0), -2);
        due("where what", x.where(0, 100, 2), -2);
        due("where n", x.where(0, 100, 0), -3);
        due("where n", x.where(0, -1, 0), -3);
        promise(17);
        due("alike none", x.alike(0, 1, 0), -1);
        fraction("alike", x.alike(0, 2, 0), x.alike(0, 2, 1), 27, 40);
        due("alike one", x.alike(1, 1, 0), -2);
        due("alike stuff", x.alike(3, 1, 0), -2);
        due("alike stuff", x.alike(1, -1, 0), -2);
        due("alike what", x.alike(0, 1, 2), -2);
        FractionLift y = told("floor 1 has 9 0 9;floor 2 has 0 9 9;");
        fraction("alike", y.alike(1, 0, 0), y.alike(1, 0, 1), 3, 2);
        fraction("alike from 0 on", y.alike(0, 2, 0), y.alike(0, 2, 1), 0, 1);
        fraction("alike at a told one", y.alike(1, 2, 0), y.alike(1, 2, 1), 2, 1);
    }

    private static void telling() {
        promise(18);
        FractionLift x = told("floor 3 has 9 1 0;floor 1 has 9 2 0;floor 2 has 8 2 0;");
        due("most(0)", x.most(0), 1);
        due("most(1)", x.most(1), 1);
        due("most(2)", x.most(2), 1);
        due("most(3)", x.most(3), -2);
        due("most(-1)", x.most(-1), -2);
        due("most of none", new FractionLift().most(2), -1);
        promise(19);
        due("tells", x.tells(10, 4), 3);
        int[] want = {5, 2, 8, 1, 0, 2};
        for (int i = 0; i < 6; i++) {
            due("floor(3, " + i + ")", x.floor(3, i), want[i]);
        }
        due("floor(0, 5)", x.floor(0, 5), 3);
        due("tells(1, 100)", x.tells(1, 100), -3);
        due("tells(5, 1)", x.tells(5, 1), -3);
        due("tells(1, 0)", x.tells(1, 0), -3);
        due("tells(-1, 1)", x.tells(-1, 1), -3);
        due("tells(6, 2)", x.tells(6, 2), -5);
        due("tells(50, 200)", x.tells(50, 200), 4);
        due("tells(1, 99)", x.tells(1, 99), 5);
        due("tells(98, 99)", x.tells(98, 99), 6);
        due("tells(4, 1)", x.tells(4, 1), 7);
        due("tells(4, 1)", x.tells(4, 1), -4);
        due("tells(1, 100)", x.tells(1, 100), -3);
        due("count(2)", x.count(2), 8);
    }

    private static void fewestOnes() {
        promise(20);
        FractionLift x = told("button:x*2;button:x+1;button:x+2;at 1;");
        due("fewest(1)", x.fewest(1, 1, 0), 0);
        due("fewest(1)", x.fewest(1, 1, 10), -1);
        due("fewest(4)", x.fewest(4, 1, 0), 2);
        due("fewest(4)", x.fewest(4, 1, 10), 0);
        due("fewest(4)", x.fewest(4, 1, 11), 0);
        due("fewest(4)", x.fewest(4, 1, 12), -1);
        due("fewest(4)", x.fewest(4, 1, 17), -1);
        due("fewest(1/2)", x.fewest(1, 2, 0), -1);
        due("fewest(1/2)", x.fewest(1, 2, 10), -1);
        due("fewest what", x.fewest(9, 1, 18), -2);
        due("fewest what", x.fewest(9, 1, 9), -2);
        due("fewest what", x.fewest(9, 1, 1), -2);
        due("fewest floor", x.fewest(9, 1, 0), -3);
        FractionLift eight = told("button:x+1/2;");
        due("eight do", eight.fewest(4, 1, 0), 8);
        due("eight do", eight.fewest(4, 1, 17), 0);
        FractionLift nine = told("button:x+1/3;");
        due("eight do not do", nine.fewest(3, 1, 0), -1);
        // 1664 floors are met by 6, 5079 by 7
        FractionLift many = told("button:x/2;button:(x+1)/3;button:(x+2)/5;button:(x+3)/7;at 1/11;");
        due("too many", many.fewest(4, 1, 0), FractionLift.SPENT);
        due("too many", many.fewest(4, 1, 10), FractionLift.SPENT);
        due("the code first", many.fewest(4, 1, 8), -2);
        due("by 6", many.fewest(1, 11 * 64, 0), 6);
        due("by 7, though too many are met by then", many.fewest(1, 11 * 128, 0), 7);
        due("by 8", many.fewest(1, 11 * 256, 0), FractionLift.SPENT);
        tray(many, 0, 0, 3, 2, 1, 0, 1, 3, 0);
        due("a row of 7", many.fewest(many.judge(0, 2), many.judge(0, 3), 0), 7);
        due("its sixth", many.fewest(many.judge(0, 2), many.judge(0, 3), 15), 3);
        due("its seventh", many.fewest(many.judge(0, 2), many.judge(0, 3), 16), 0);
        FractionLift just = told("top 1;button:x+183/999;button:x+230/999;button:x+203/999;button:x+435/999/999;"
                + "button:x+90/999;button:x+983/999/999;");
        due("2000 are met by 8", just.fewest(1, 1000000, 0), -1);
        FractionLift more = told("top 1;button:x+399/999;button:x+40/999;button:x+360/999/999;button:x+263/999;"
                + "button:x+15/999/999;button:x+812/999/999;");
        due("2001 are met by 8", more.fewest(1, 1000000, 0), FractionLift.SPENT);
        due("its eighth", many.fewest(many.judge(0, 2), many.judge(0, 3), 17), -1);
    }

    private static void reaching() {
        promise(21);
        FractionLift x = told("button:x+1;button:x+2;at 1;");
        int[] reach = {1, 2, 2, 1, 0, 0};
        for (int n = 0; n <= 5; n++) {
            due("reach(" + n + ")", x.reach(n), reach[n]);
        }
        due("reach(-1)", x.reach(-1), -3);
        due("reach(6)", x.reach(6), -3);
        FractionLift all = told("button:x/2;button:(x+1)/3;button:(x+2)/5;button:(x+3)/7;button:(x+1)/11;button:x/13;at 1;");
        due("reach(1)", all.reach(1), 6);
        promise(22);
        fraction("highest(2)", x.highest(2, 0), x.highest(2, 1), 4, 1);
        fraction("highest(0)", x.highest(0, 0), x.highest(0, 1), 1, 1);
        due("highest(4)", x.highest(4, 1), -1);
        due("highest what", x.highest(6, 2), -2);
        due("highest n", x.highest(6, 0), -3);
        due("highest n", x.highest(-1, 0), -3);
    }

    private static void twinRows() {
        promise(23);
        FractionLift x = told("button:x+1;button:x/2;button:x+1/2;");
        // from 0: one button leads to 1, 0, 1/2; of two 0 0 is 2, 0 1 is 1/2, 0 2 is 3/2, 1 0 is 1, 1 1 is 0, 1 2 is 1/2
        due("twins(0)", x.twins(0), 2);
        due("twins(10)", x.twins(10), 0);
        due("twins(11)", x.twins(11), 1);
        due("twins(20)", x.twins(20), 1);
        due("twins(21)", x.twins(21), 2);
        due("twins(12)", x.twins(12), -1);
        due("twins(24)", x.twins(24), -1);
        int[] none = {1, 9, 15, 19, 25, -1};
        for (int what : none) {
            due("twins(" + what + ")", x.twins(what), -2);
        }
        due("no twins", told("button:x/2;button:(x+1)/2;at 1/3;").twins(20), -1);
        FractionLift one = told("button:x;button:x;");
        due("twins of one", one.twins(0), 1);
        due("twins of one", one.twins(10), 0);
        due("twins of one", one.twins(20), 1);
    }

    private static void remainders() {
        promise(24);
        FractionLift x = told("button:x*4;button:x*2;at 1;");
        due("never(3, 3)", x.never(3, 3, 1), 1);
        due("never(3, 1/3)", x.never(3, 1, 3), 0);
        due("never(3, 1/2)", x.never(3, 1, 2), 0);
        due("never(7, 3)", x.never(7, 3, 1), 1);
        due("never(1)", x.never(1, 1, 1), -3);
        due("never(31)", x.never(31, 1, 1), -3);
        due("never floor", x.never(3, 5, 1), -3);
        promise(25);
        due("shown(3)", x.shown(3, 1), 3);
        due("shown(4)", x.shown(4, 1), -1);
        due("shown(1/3)", x.shown(1, 3), 4);
        due("shown floor", x.shown(1, 0), -3);
        promise(26);
        due("rests(7)", x.rests(7), 1 << 1 | 1 << 2 | 1 << 4);
        due("rests(30)", x.rests(30), 1 << 1 | 1 << 2 | 1 << 4 | 1 << 8 | 1 << 16);
        due("rests(1)", x.rests(1), -3);
        due("rests(31)", x.rests(31), -3);
        FractionLift y = told("button:x/2;button:1/(x-1);at 1/3;");
        due("at has none", y.rests(9), 511);
        due("no inverse of 2", y.rests(10), 1023);
        FractionLift z = told("button:x+top;at 1/2;");
        due("top is 4", z.rests(9), 1 << 5 | 1 << 0 | 1 << 4 | 1 << 8 | 1 << 3 | 1 << 7 | 1 << 2 | 1 << 6 | 1 << 1);
        due("without buttons", told("at 1/2;").rests(5), 1 << 3);
        due("below 0", told("button:x-1-1-1;at 1;").rests(3), 2);
        due("0 in a sum", told("button:x+0;at 1;").rests(5), 2);
        FractionLift late = told("button:x/(2*3*5*7)/(11*13)/(17*19)/23*(2*3*5*7)*(11*13)*(17*19)*23;at 1;");
        promise(25);
        due("shown late", late.shown(2, 1), 29);
    }

    private static void meetings() {
        promise(27);
        FractionLift x = told("button:x+1;tenant 0;tenant 2;tenant 0/5;tenant 1/2;");
        due("meet at once", x.meet(0, 2, false, 0), 0);
        due("never meet", x.meet(0, 1, false, 0), -1);
        due("waits", x.meet(0, 1, true, 0), 2);
        due("waits", x.meet(0, 1, true, 1), 2);
        due("waits", x.meet(0, 1, true, 2), 1);
        due("the first does not wait", x.meet(1, 0, true, 0), -1);
        due("apart", x.meet(0, 3, true, 1), -1);
        due("meet one", x.meet(1, 1, true, 0), -2);
        due("meet tenant", x.meet(4, 1, true, 0), -2);
        due("meet tenant", x.meet(1, -1, true, 0), -2);
        due("meet tenant", x.meet(1, 4, true, 0), -2);
        FractionLift late = told("top 9;button:x+1;tenant 0;tenant 4;tenant 5;");
        due("by 4", late.meet(0, 1, true, 0), 4);
        due("by 4", late.meet(0, 1, true, 1), 4);
        due("not by 5", late.meet(0, 2, true, 0), -1);
        due("not by 5", late.meet(0, 2, true, 2), -1);
        due("meet what", x.meet(0, 1, true, 3), -2);
        FractionLift y = told("button:x+1;button:x/2;button:4-x;tenant 1;tenant 3;");
        // by two turns 2 and 3 are common to both
        due("the least", y.meet(0, 1, false, 0), 2);
        fraction("the least", y.meet(0, 1, false, 1), y.meet(0, 1, false, 2), 2, 1);
    }

    private static void addresses() {
        promise(28);
        FractionLift x = new FractionLift();
        int[] terms = {3, 7, 16};
        due("address(355/113)", x.address(355, 113, -1), 3);
        for (int k = 0; k < 3; k++) {
            due("address(355/113)", x.address(355, 113, k), terms[k]);
        }
        due("address(355/113)", x.address(355, 113, 3), -1);
        due("address(4)", x.address(8, 2, -1), 1);
        due("address(1)", x.address(1, 1, 0), 1);
        due("address(0)", x.address(0, 3, 0), 0);
        due("address k", x.address(0, 3, -2), -1);
        due("address floor", x.address(1, 0, -1), -3);
        due("address long", x.address(514229, 832040, -1), 29);
        promise(29);
        fraction("above", x.neighbour(1, 3, 7, true, 0), x.neighbour(1, 3, 7, true, 1), 2, 5);
        fraction("below", x.neighbour(1, 3, 7, false, 0), x.neighbour(1, 3, 7, false, 1), 2, 7);
        fraction("of what is none of them", x.neighbour(355, 113, 10, true, 0), x.neighbour(355, 113, 10, true, 1), 22, 7);
        fraction("above 0", x.neighbour(0, 1, 1000, true, 0), x.neighbour(0, 1, 1000, true, 1), 1, 1000);
        fraction("below 4", x.neighbour(4, 1, 1, false, 0), x.neighbour(4, 1, 1, false, 1), 3, 1);
        due("below 0", x.neighbour(0, 1, 9, false, 0), -1);
        due("above 4", x.neighbour(4, 1, 9, true, 1), -1);
        due("neighbour what", x.neighbour(5, 1, 0, true, 2), -2);
        due("neighbour d", x.neighbour(1, 1, 0, true, 0), -3);
        due("neighbour d", x.neighbour(1, 1, 1001, true, 0), -3);
        due("neighbour floor", x.neighbour(5, 1, 9, true, 0), -3);
        promise(30);
        fraction("simplest", x.simplest(7, 5, 10, 7, 0), x.simplest(10, 7, 7, 5, 1), 17, 12);
        fraction("least of like ones", x.simplest(1, 2, 7, 2, 0), x.simplest(1, 2, 7, 2, 1), 1, 1);
        fraction("from a whole one", x.simplest(1, 1, 2, 1, 0), x.simplest(1, 1, 2, 1, 1), 3, 2);
        fraction("from 0", x.simplest(0, 1, 1, 7, 0), x.simplest(0, 1, 1, 7, 1), 1, 8);
        fraction("close", x.simplest(1, 1000000, 1, 999999, 0), x.simplest(1, 1000000, 1, 999999, 1), 2, 1999999);
        due("simplest what", x.simplest(5, 1, 1, 0, 2), -2);
        due("simplest one", x.simplest(1, 2, 2, 4, 0), -3);
        due("simplest floor", x.simplest(1, 2, 9, 2, 0), -3);
        due("simplest floor", x.simplest(-1, 2, 1, 2, 0), -3);
    }

    private static void counting() {
        promise(31);
        FractionLift x = told("top 2;");
        int[] floors = {3, 5, 9, 13, 21};
        for (int d = 1; d <= 5; d++) {
            due("floors(" + d + ")", x.floors(d), floors[d - 1]);
        }
        due("floors(200)", x.floors(200), 2 * 12232 + 1);
        due("floors(0)", x.floors(0), -3);
        due("floors(201)", x.floors(201), -3);
        promise(32);
        due("rank(0)", x.rank(0, 1, 200), 0);
        due("rank(2)", x.rank(2, 1, 5), 20);
        due("rank(1/2)", x.rank(2, 4, 5), 5);
        due("rank of none of them", x.rank(499, 1000, 5), 5);
        due("rank of none of them", x.rank(501, 1000, 5), 6);
        due("rank d", x.rank(1, 1, 0), -3);
        due("rank d", x.rank(1, 1, 201), -3);
        due("rank floor", x.rank(3, 1, 1), -3);
        promise(33);
        due("parts(4/5)", x.parts(4, 5, -1), 3);
        int[] ns = {2, 4, 20, -1};
        for (int k = 0; k < 4; k++) {
            due("parts(4/5, " + k + ")", x.parts(4, 5, k), ns[k]);
            due("parts(9/5, " + k + ")", x.parts(9, 5, k), ns[k]);
        }
        due("parts(2)", x.parts(2, 1, -1), 0);
        due("parts(2)", x.parts(2, 1, 0), -1);
        due("parts k", x.parts(4, 5, -2), -1);
        due("parts(5/121)", x.parts(5, 121, -1), -4);
        due("parts(5/121)", x.parts(5, 121, 0), -4);
        due("parts floor", x.parts(5, 1, 0), -3);
    }

    private static void rentals() {
        promise(34);
        FractionLift x = told("floor 0 has 0 9 9;floor 3 has 10 9 9;tenant 1;tenant 1/2;tenant 4;");
        fraction("rent(0)", x.rent(0, 0), x.rent(0, 1), 10, 3);
        fraction("rent(2)", x.rent(2, 0), x.rent(2, 1), 10, 1);
        due("rent(3)", x.rent(3, 0), -2);
        due("rent(-1)", x.rent(-1, 0), -2);
        due("rent what", x.rent(0, 2), -2);
        promise(35);
        due("rents()", x.rents(), 333 + 166 + 1000);
        promise(38);
        due("richest()", x.richest(), 2);
        promise(36);
        due("moves more", x.moves(0, 7, 2), 1);
        due("moves as much", x.moves(2, 6, 2), 0);
        due("moves less", x.moves(2, 2, 99), -1);
        fraction("tenant(2)", x.tenant(2, 0), x.tenant(2, 1), 2, 99);
        due("moves tenant", x.moves(3, 9, 1), -2);
        due("moves floor", x.moves(0, 9, 1), -3);
        due("moves floor", x.moves(0, 1, 100), -3);
        due("moves floor", x.moves(0, 5, 500), -3);
        due("moves floor", x.moves(0, 400, 200), -1);
        promise(38);
        due("richest()", x.richest(), 0);
        due("richest of none", new FractionLift().richest(), -1);
        due("the first of like ones", told("tenant 1;tenant 2;").richest(), 0);
    }

    private static void fairness() {
        promise(37);
        FractionLift x = told("tenant 1;tenant 0;tenant 7/99;tenant 4;tenant 3;");
        fraction("fairest(0)", x.fairest(0, 0), x.fairest(0, 1), 1, 12);
        fraction("how far", x.fairest(0, 2), x.fairest(0, 3), 686, 99);
        due("fairest t", x.fairest(5, 0), -2);
        due("fairest t", x.fairest(-1, 0), -2);
        due("fairest what", x.fairest(0, 4), -2);
        FractionLift one = told("tenant 1;");
        due("no other", one.fairest(0, 0), -1);
        due("no such", one.fairest(1, 0), -2);
        FractionLift two = told("tenant 4;tenant 1/3;tenant 3/2;");
        fraction("the least", two.fairest(0, 0), two.fairest(0, 1), 1, 3);
        fraction("how far", two.fairest(0, 2), two.fairest(0, 3), 7, 6);
    }

    private static void seenOnes() {
        promise(39);
        FractionLift x = told("button:x+1;button:x+2;button:x/2;floor 2 has 0 0 0;floor 3 has 0 0 0;floor 4 has 0 0 0;");
        due("fits missing", x.fits(0, -1), -6);
        due("fits tray", x.fits(4, -1), -2);
        x.numbers(0, 0, 1);
        due("fits of 1", x.fits(0, -1), -4);
        x.numbers(0, 0, 9);
        due("fits of 9", x.fits(0, -1), -4);
        tray(x, 0, 0, -1, 0, 2);
        // 0 0 1, 1 2 .. leads to 1, 2 1 1
        due("fits", x.fits(0, -1), 2);
        due("fits(0)", x.fits(0, 0), 0 * 36 + 0 * 6 + 1);
        due("fits(1)", x.fits(0, 1), 2 * 36 + 1 * 6 + 1);
        due("fits(2)", x.fits(0, 2), -1);
        due("fits(-2)", x.fits(0, -2), -1);
        tray(x, 1, 2, -1, 3);
        due("no told floor", x.fits(1, -1), -3);
        tray(x, 1, 2, -2, 0);
        due("no told floor", x.fits(1, -1), -3);
        tray(x, 2, 3, 4294967296L, 0);
        due("no told floor", x.fits(2, -1), -3);
        tray(x, 2, 1, -1, -1);
        due("all rows", x.fits(2, -1), 9);
        promise(40);
        due("sure(0)", x.sure(0, 0), -1);
        due("sure(1)", x.sure(0, 1), -1);
        due("sure(2)", x.sure(0, 2), 1);
        due("sure place", x.sure(0, 3), -3);
        due("sure place", x.sure(0, -1), -3);
        due("sure missing", x.sure(3, 9), -6);
        due("sure tray", x.sure(-1, 0), -2);
        due("sure no floor", x.sure(1, 0), -3);
        tray(x, 2, 1, 1, 0);
        due("none fits", x.sure(2, 0), -1);
        due("none fits", x.fits(2, -1), 0);
        FractionLift six = told("button:x;button:x;button:x;button:x;button:x;button:x;");
        tray(six, 0, 0, -1, -1, -1, -1, -1, -1, -1);
        due("too many rows", six.fits(0, -1), FractionLift.SPENT);
        due("too many rows", six.sure(0, 6), FractionLift.SPENT);
        due("the place first", six.sure(0, 7), -3);
        tray(six, 0, 0, -1, -1, -1, -1, -1, -1);
        due("46656 rows", six.fits(0, -1), 46656);
        due("the last row", six.fits(0, 46655), 46655);
        FractionLift none = new FractionLift();
        tray(none, 0, 0, -1, -1);
        due("without buttons", none.fits(0, -1), 0);
        due("without buttons", none.sure(0, 0), -1);
    }

    private static void chances() {
        promise(41);
        FractionLift x = told("button:x+1;button:1/x;button:x-4;stick 3;");
        due("odds missing", x.odds(0, 9, 1), -6);
        due("odds tray", x.odds(4, 9, 1), -2);
        x.numbers(0, 0, 0);
        due("odds of 0", x.odds(0, 9, 1), -4);
        x.numbers(0, 0, 9);
        due("odds of 9", x.odds(0, 9, 1), -4);
        tray(x, 0, 0, 0, 1, 0);
        due("odds floor", x.odds(0, 9, 1), -3);
        due("odds(0)", x.odds(0, 0, 1), 3 * 10 * 3);
        due("odds(1)", x.odds(0, 1, 1), 3 * 10 * 7 + 7 * 10 * 3);
        due("odds(2)", x.odds(0, 2, 1), 490);
        due("odds(3)", x.odds(0, 3, 1), 0);
        tray(x, 1, 0, 0, 3);
        due("odds button", x.odds(1, 1, 1), -3);
        tray(x, 1, 0, -1);
        due("odds button", x.odds(1, 1, 1), -3);
        tray(x, 1, 0, 2, 2, 2, 2, 2, 2, 2, 2);
        due("one that can't be", x.odds(1, 0, 1), 100000000);
        promise(42);
        due("ends(0)", x.ends(0), 3);
        due("ends(1)", x.ends(1), 1);
        tray(x, 1, 0, 7);
        due("ends button", x.ends(1), -3);
        due("ends missing", x.ends(2), -6);
        due("ends tray", x.ends(-1), -2);
        x.numbers(2, 0, 9);
        due("ends of 9", x.ends(2), -4);
        FractionLift firm = told("button:x+1;");
        tray(firm, 0, 3, 0, 0);
        due("none sticks", firm.ends(0), 1);
        due("none sticks", firm.odds(0, 1, 1), 0);
        due("none sticks", firm.odds(0, 2, 1), 100);
    }

    private static void trays() {
        promise(43);
        FractionLift x = told("at 25/7;");
        due("numbers tray", x.numbers(4, 0, 41), -2);
        due("numbers tray", x.numbers(-1, 0, 1), -2);
        due("numbers sort", x.numbers(0, 4, 41), -2);
        due("numbers sort", x.numbers(0, -1, 1), -2);
        due("numbers n", x.numbers(0, 0, 41), -3);
        due("numbers", x.numbers(0, 0, 40), 0);
        due("write last", x.write(0, 39, 127), 127);
        due("numbers n", x.numbers(0, 0, -1), -3);
        due("the tray stays", x.write(0, 39, 128), -128);
        promise(44);
        long v = 0x1234567890abcdefL;
        for (int sort = 0; sort < 4; sort++) {
            due("numbers", x.numbers(1, sort, 1), 0);
            due("write", x.write(1, 0, v), v << 64 - (8 << sort) >> 64 - (8 << sort));
        }
        due("write tray", x.write(4, 0, 0), -2);
        due("write missing", x.write(2, 9, 0), -6);
        due("write place", x.write(1, 1, 0), -7);
        due("write place", x.write(1, -1, 0), -7);
        x.numbers(2, 1, 0);
        due("write into none", x.write(2, 0, 0), -7);
        promise(45);
        due("copy tray", x.copy(4), -2);
        due("copy missing", x.copy(3), -6);
        due("copy into none", x.copy(2), 0);
        x.numbers(2, 1, 2);
        // 25/7 is 3 and 1 by (1 and 1 by (1 and 1 by 3)): 3, 1, 1, 3
        due("copy into 2", x.copy(2), 2);
        due("what came", x.judge(2, 0), 0);
        x.numbers(2, 1, 6);
        x.write(2, 5, 9);
        due("copy into 6", x.copy(2), 4);
        copied();
    }

    /** What came into a tray is seen by a row of it. */
    private static void copied() {
        FractionLift x = told("button:x+1;button:x/2;button:x+1/4;button:3;at 5/7;");
        // 5/7 is 0, 1, 2, 2: (5/7 + 1) / 2 + 1/4 + 1/4 is 19/14; the places behind stay as they were
        tray(x, 0, 3, 3, 3, 3, 3, 3);
        due("copy", x.copy(0), 4);
        due("judge", x.judge(0, 0), -1);
        fraction("judge", x.judge(0, 2), x.judge(0, 3), 3, 1);
        x.numbers(0, 0, 4);
        due("copy", x.copy(0), 4);
        fraction("judge", x.judge(0, 2), x.judge(0, 3), 19, 14);
        FractionLift y = told("button:x;button:x/999;at 1;");
        due("press(1)", y.press(1), 1);
        // 1/999 is 0, 999: cut to 8 bits -25
        y.numbers(0, 0, 2);
        due("copy", y.copy(0), 2);
        due("cut", y.judge(0, 0), 1);
        FractionLift z = told("button:x+1;button:x+1;button:x/128;at 1/2;");
        due("press(2)", z.press(2), 1);
        // 1/256 is 0, 256: cut to 8 bits 0
        z.numbers(0, 0, 2);
        due("copy", z.copy(0), 2);
        due("cut", z.judge(0, 0), -1);
        due("cut", z.judge(0, 2), 513);
    }

    private static void images() {
        promise(46);
        FractionLift x = told("top 3;button:x+1;floor 1 has 7 8 9;tenant 2;stick 5;");
        due("image(2)", x.image(2), -2);
        due("image(-1)", x.image(-1), -2);
        due("press", x.press(0), 1);
        due("press", x.press(0), 2);
        due("image(1)", x.image(1), 0);
        due("tells", x.tells(2, 1), 1);
        due("moves", x.moves(0, 1, 1), 0);
        due("press", x.press(0), 3);
        due("house", tell(x, "button:1/x;button:x;"), 2);
        due("fault", tell(x, "lift"), -32);
        promise(47);
        due("restore(0)", x.restore(0), -5);
        due("restore(2)", x.restore(2), -2);
        due("restore(-1)", x.restore(-1), -2);
        due("restore(1)", x.restore(1), 0);
        int[] counts = {3, 1, 1, 1, 5, 0, 2, 0, 5};
        for (int i = 0; i < counts.length; i++) {
            due("count(" + i + ")", x.count(i), counts[i]);
        }
        due("fault(0)", x.fault(0), 2);
        due("at(0)", x.at(0), 2);
        due("undo(1)", x.undo(1), -3);
        due("tenant", x.tenant(0, 0), 2);
        due("leads", x.leads(0, 1, 1, 0), 2);
        due("press", x.press(0), 1);
        due("restore again", x.restore(1), 0);
        due("at(0)", x.at(0), 2);
        due("image over it", x.image(1), 0);
        due("floor(0, 4)", x.floor(0, 4), 9);
        promise(48);
        due("count(9)", x.count(9), -1);
        due("count(-1)", x.count(-1), -1);
    }

    public static void main(String[] args) {
        due("NONE", FractionLift.NONE, -1);
        due("SPENT", FractionLift.SPENT, -1000);
        newObject();
        feeding();
        reading();
        faults();
        places();
        buttons();
        pressing();
        rows();
        days();
        stuffs();
        telling();
        fewestOnes();
        reaching();
        twinRows();
        remainders();
        meetings();
        addresses();
        counting();
        rentals();
        fairness();
        seenOnes();
        chances();
        trays();
        images();
        finish();
    }
}
