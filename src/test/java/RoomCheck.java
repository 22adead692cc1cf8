import java.lang.management.ManagementFactory;

/** The dearest calls, 512 of each on one object: what they make must not grow with the calls. */
public final class RoomCheck {
    private static final String HOUSE = "top 9;button:x/2;button:(x+1)/3;button:(x+2)/5;button:(x+3)/7;button:x+1/97;"
            + "button:1/(x+1);floor 1 has 1 2 3;floor 2 has 9 8 7;floor 3 has 4 5 6;tenant 1/97;tenant 1/89;tenant 1/83;"
            + "tenant 1/79;tenant 1/73;tenant 9;stick 4;at 1/11;";
    /** Bytes; the rows of one object take some 240,000. */
    private static final long MOST = 600000;

    private static long bytes() {
        return ((com.sun.management.ThreadMXBean) ManagementFactory.getThreadMXBean()).getThreadAllocatedBytes(
                Thread.currentThread().getId());
    }

    private static void tell(FractionLift x) {
        int v = 0;
        int[] five = new int[5];
        for (int i = 0; i < (HOUSE.length() + 19) / 20 * 20; i++) {
            v = v << 8 | (i < HOUSE.length() ? HOUSE.charAt(i) : ' ');
            five[i % 20 / 4] = v;
            if (i % 20 == 19) {
                x.feed(five[0], five[1], five[2], five[3], five[4]);
            }
        }
        if (x.house(HOUSE.length()) != 18) {
            System.out.println("the house was not read: " + x.fault(0) + " at " + x.fault(1));
            System.exit(1);
        }
    }

    private static long call(FractionLift x, int which, int i) {
        switch (which) {
            case 0:
                return x.fewest(8, 1, 0);
            case 1:
                return x.reach(5);
            case 2:
                return x.highest(5, 0);
            case 3:
                return x.twins(0);
            case 4:
                return x.meet(0, 5, true, 0);
            case 5:
                return x.shown(i % 10, 1);
            case 6:
                return x.fits(0, -1);
            case 7:
                return x.odds(1, 1, 11) + x.ends(1);
            case 8:
                return x.fairest(5, 2);
            case 9:
                return x.neighbour(1, 3, 1000, true, 0) + x.rank(1, 3, 200) + x.floors(200);
            case 10:
                return x.day(i, 60) + x.image(i & 1) + x.restore(i & 1);
            case 11:
                tell(x);
                return 0;
            case 12:
                return x.numbers(i & 3, 3, 40) + x.copy(i & 3);
            default:
                return x.parts(i, 99, -1) + x.simplest(1, 3, i, 99, 0) + x.where(0, i % 100, 0) + x.alike(0, 1, 0);
        }
    }

    public static void main(String[] args) {
        boolean wrong = false;
        for (int which = 0; which <= 13; which++) {
            long before = bytes();
            FractionLift x = new FractionLift();
            tell(x);
            x.numbers(0, 0, 6);
            x.numbers(1, 0, 8);
            for (int i = 0; i < 8; i++) {
                x.write(0, i, -1);
                x.write(1, i, i % 6);
            }
            long sum = 0;
            for (int i = 0; i < (which == 6 ? 60 : 512); i++) {
                sum += call(x, which, i);
            }
            long made = bytes() - before;
            if (made > MOST) {
                wrong = true;
                System.out.println("calls " + which + " made " + made + " bytes (sum " + sum + ")");
            }
        }
        System.out.println(wrong ? "some calls make too much" : "calls make no more than their object's rows");
        if (wrong) {
            System.exit(1);
        }
    }
}
