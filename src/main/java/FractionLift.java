import java.util.Arrays;

/** A house whose floors are fractions, told as a text; the numbered promises stand in the document. */
public final class FractionLift {
    public static final int NONE = -1;
    public static final int SPENT = -1000;

    private static final int NO_SUCH = -2;
    private static final int BAD_NUMBER = -3;
    private static final int TOO_MANY = -4;
    private static final int NOT_NOW = -5;
    private static final int TRAY_MISSING = -6;
    private static final int NO_PLACE = -7;
    private static final int BUTTON_FAULT = -10;
    private static final int TEXT_FAULT = -30;

    private static final int MOST_BYTES = 900;
    private static final int MOST_BUTTONS = 6;
    private static final int MOST_FLOORS = 8;
    private static final int MOST_TENANTS = 6;
    private static final int MOST_STUFFS = 3;
    private static final int MOST_UNDONE = 12;
    private static final int MOST_IN_TRAY = 40;
    private static final int MOST_IN_ROW = 8;
    private static final int MOST_TRAYS = 4;
    private static final int MOST_IMAGES = 2;
    private static final int MOST_NESTED = 6;
    private static final int MOST_LOWER_TOLD = 99;
    private static final int MOST_FAIR_LOWER = 12;
    private static final int MOST_COUNTED_LOWER = 200;
    private static final int MOST_NEAR_LOWER = 1000;
    private static final int MOST_LAYERS = 5;
    private static final int MOST_TURNS = 4;
    private static final int MOST_MET = 2000;
    private static final int MOST_ROWS_SEEN = 200000;
    private static final int MOST_REMAINDER = 30;
    private static final int FLOOR_LIMIT = 1000000;
    private static final int WAY_LIMIT = 1000000000;
    /** Every floor with a lower number up to 12 lies at a whole number of these. */
    private static final long FAIR_UNIT = 27720L;
    /** Rows of 0 to 5 of six buttons: 1 + 6 + 36 + 216 + 1296 + 7776. */
    private static final int MOST_LANDINGS = 9331;
    private static final int LANDING_HEADS = 8192;
    /** A row of 8 that may stick at each place: 1 + 2 + 4 + .. + 256. */
    private static final int MOST_CHANCES = 511;
    /** Far above what six ( within one another can pile up. */
    private static final int PILE = 64;
    /** Euclid's way on two longs is shorter than this. */
    private static final int EUCLID_STEPS = 128;

    private static final int CODE_X = -1;
    private static final int CODE_TOP = -2;
    private static final int CODE_PLUS = -3;
    private static final int CODE_MINUS = -4;
    private static final int CODE_TIMES = -5;
    private static final int CODE_OVER = -6;
    private static final int CODE_OPEN = -7;

    private final int[] tape;
    private int taped;
    private int faultKind;
    private int faultPlace;
    private House now;
    private Reader reader;
    private final House[] images;
    private final Tray[] trays;
    private final int[] undoUp;
    private final int[] undoLow;
    private int undoable;
    private final Reckoner reckoner;
    private final Ratio asked;
    private final Ratio spare;
    private final long[] terms;
    private final int[] counts;
    private Routes routes;
    private Watcher watcher;

    public FractionLift() {
        tape = new int[MOST_BYTES];
        taped = 0;
        faultKind = 0;
        faultPlace = NONE;
        now = new House();
        images = new House[MOST_IMAGES];
        trays = new Tray[MOST_TRAYS];
        undoUp = new int[MOST_UNDONE];
        undoLow = new int[MOST_UNDONE];
        undoable = 0;
        reckoner = new Reckoner();
        asked = new Ratio();
        spare = new Ratio();
        terms = new long[MOST_IN_TRAY];
        counts = new int[MOST_COUNTED_LOWER + 1];
    }

    // ---- the house

    public int feed(int a, int b, int c, int d, int e) {
        if (taped + 20 > MOST_BYTES) {
            return NOT_NOW;
        }
        tapeInt(a);
        tapeInt(b);
        tapeInt(c);
        tapeInt(d);
        tapeInt(e);
        return taped;
    }

    public int house(int n) {
        if (n < 0 || n > taped) {
            return BAD_NUMBER;
        }
        if (reader == null) {
            reader = new Reader();
        }
        reader.readAll(tape, n);
        taped = 0;
        faultKind = reader.faultKind;
        faultPlace = reader.faultPlace;
        if (faultKind != 0) {
            return TEXT_FAULT - faultKind;
        }
        House told = reader.into;
        reader.into = now;
        now = told;
        undoable = 0;
        return now.lines;
    }

    public int fault(int what) {
        if (what == 0) {
            return faultKind;
        }
        return what == 1 ? faultPlace : NONE;
    }

    public int at(int what) {
        if (what == 0) {
            return now.atUp;
        }
        return what == 1 ? now.atLow : NO_SUCH;
    }

    public int floor(int k, int what) {
        if (k < 0 || k >= now.floorCount) {
            return NO_SUCH;
        }
        switch (what) {
            case 0:
                return now.floorUp[k];
            case 1:
                return now.floorLow[k];
            case 2:
            case 3:
            case 4:
                return now.stuffOf(k, what - 2);
            case 5:
                return now.placeFromBelow(k);
            default:
                return NO_SUCH;
        }
    }

    public int tenant(int t, int what) {
        if (t < 0 || t >= now.tenantCount) {
            return NO_SUCH;
        }
        if (what == 0) {
            return now.tenantUp[t];
        }
        return what == 1 ? now.tenantLow[t] : NO_SUCH;
    }

    // ---- buttons

    public int why(int button) {
        return reckoner.lead(now, button, now.atUp, now.atLow);
    }

    public int leads(int button, int up, int low, int what) {
        if (what < 0 || what > 1) {
            return NO_SUCH;
        }
        if (!asksFloor(up, low)) {
            return BAD_NUMBER;
        }
        int why = reckoner.lead(now, button, asked.up, asked.low);
        if (why != 0) {
            return BUTTON_FAULT - why;
        }
        return what == 0 ? reckoner.up : reckoner.low;
    }

    public int press(int button) {
        int why = pressOne(button);
        return why == 0 ? undoable : BUTTON_FAULT - why;
    }

    public int undo(int n) {
        if (n < 1 || n > undoable) {
            return BAD_NUMBER;
        }
        undoable -= n;
        now.atUp = undoUp[undoable];
        now.atLow = undoLow[undoable];
        return undoable;
    }

    public int judge(int tray, int what) {
        if (what < 0 || what > 3) {
            return NO_SUCH;
        }
        int refused = refusedRow(tray, 1);
        if (refused != 0) {
            return refused;
        }
        Tray row = trays[tray];
        int up = now.atUp;
        int low = now.atLow;
        int place = 0;
        int why = 0;
        for (int i = 0; i < row.size && why == 0; i++) {
            why = reckoner.lead(now, row.smallAt(i), up, low);
            if (why == 0) {
                up = reckoner.up;
                low = reckoner.low;
                place++;
            }
        }
        switch (what) {
            case 0:
                return why == 0 ? NONE : place;
            case 1:
                return why;
            case 2:
                return up;
            default:
                return low;
        }
    }

    public int perform(int tray) {
        int refused = refusedRow(tray, 1);
        if (refused != 0) {
            return refused;
        }
        Tray row = trays[tray];
        int done = 0;
        for (int i = 0; i < row.size; i++) {
            if (pressOne(row.smallAt(i)) != 0) {
                return done;
            }
            done++;
        }
        return done;
    }

    public int day(int seed, int times) {
        if (times < 1 || times > 60) {
            return BAD_NUMBER;
        }
        int buttons = now.buttonCount;
        if (buttons < 1) {
            return NOT_NOW;
        }
        int x = seed;
        int done = 0;
        for (int i = 0; i < times; i++) {
            x = nextDraw(x);
            int button = (x >>> 16) % buttons;
            x = nextDraw(x);
            boolean sticks = (x >>> 16) % 10 < now.stick;
            if (!sticks && pressOne(button) == 0) {
                done++;
            }
        }
        return done;
    }

    // ---- what lies there

    public long has(int stuff, int up, int low, int what) {
        if (!isStuff(stuff) || what < 0 || what > 1) {
            return NO_SUCH;
        }
        if (!asksFloor(up, low)) {
            return BAD_NUMBER;
        }
        now.stuffAt(stuff, asked.up, asked.low, spare);
        return spare.part(what);
    }

    public long where(int stuff, int n, int what) {
        if (!isStuff(stuff) || what < 0 || what > 1) {
            return NO_SUCH;
        }
        if (n < 0 || n > 99) {
            return BAD_NUMBER;
        }
        return now.leastLevel(stuff, NONE, n, spare) ? spare.part(what) : NONE;
    }

    public long alike(int stuff, int other, int what) {
        if (!isStuff(stuff) || !isStuff(other) || stuff == other || what < 0 || what > 1) {
            return NO_SUCH;
        }
        return now.leastLevel(stuff, other, 0, spare) ? spare.part(what) : NONE;
    }

    public int most(int stuff) {
        if (!isStuff(stuff)) {
            return NO_SUCH;
        }
        int best = NONE;
        for (int i = 0; i < now.floorCount; i++) {
            int k = now.order[i];
            if (best == NONE || now.stuffOf(k, stuff) > now.stuffOf(best, stuff)) {
                best = k;
            }
        }
        return best;
    }

    public int tells(int up, int low) {
        if (!asksFloor(up, low) || asked.low > MOST_LOWER_TOLD) {
            return BAD_NUMBER;
        }
        if (now.floorCount >= MOST_FLOORS) {
            return TOO_MANY;
        }
        if (now.floorAt(asked.up, asked.low) != NONE) {
            return NOT_NOW;
        }
        for (int s = 0; s < MOST_STUFFS; s++) {
            now.stuffAt(s, asked.up, asked.low, spare);
            now.newStuffs[s] = (int) spare.whole();
        }
        now.addFloor((int) asked.up, (int) asked.low);
        return now.floorCount - 1;
    }

    // ---- where buttons lead

    public int fewest(int up, int low, int what) {
        if (what != 0 && (what < 10 || what > 17)) {
            return NO_SUCH;
        }
        if (!asksFloor(up, low)) {
            return BAD_NUMBER;
        }
        Routes from = routesFromHere();
        int n = from.seekFewest((int) asked.up, (int) asked.low);
        if (n < 0 || what == 0) {
            return n;
        }
        return what - 10 < n ? from.firstRow[what - 10] : NONE;
    }

    public int reach(int n) {
        if (n < 0 || n > MOST_LAYERS) {
            return BAD_NUMBER;
        }
        Routes from = routesFromHere();
        int begin = from.layFloors(n);
        return from.landings.size - begin;
    }

    public int highest(int n, int what) {
        if (what < 0 || what > 1) {
            return NO_SUCH;
        }
        if (n < 0 || n > MOST_LAYERS) {
            return BAD_NUMBER;
        }
        Routes from = routesFromHere();
        int best = from.greatestFrom(from.layFloors(n));
        if (best == NONE) {
            return NONE;
        }
        return what == 0 ? from.landings.up[best] : from.landings.low[best];
    }

    public int twins(int what) {
        boolean ofFirst = what >= 10 && what <= 14;
        boolean ofSecond = what >= 20 && what <= 24;
        if (what != 0 && !ofFirst && !ofSecond) {
            return NO_SUCH;
        }
        Routes from = routesFromHere();
        int n = from.seekTwins();
        if (n == NONE || what == 0) {
            return n;
        }
        int k = what % 10;
        if (k >= n) {
            return NONE;
        }
        return ofFirst ? from.firstRow[k] : from.secondRow[k];
    }

    public int never(int m, int up, int low) {
        if (!isModulus(m) || !asksFloor(up, low)) {
            return BAD_NUMBER;
        }
        return isNever(m) ? 1 : 0;
    }

    public int shown(int up, int low) {
        if (!asksFloor(up, low)) {
            return BAD_NUMBER;
        }
        for (int m = 2; m <= MOST_REMAINDER; m++) {
            if (isNever(m)) {
                return m;
            }
        }
        return NONE;
    }

    public int rests(int m) {
        return isModulus(m) ? remaindersBy(m) : BAD_NUMBER;
    }

    public int meet(int t, int u, boolean waits, int what) {
        int tenants = now.tenantCount;
        if (t < 0 || t >= tenants || u < 0 || u >= tenants || t == u || what < 0 || what > 2) {
            return NO_SUCH;
        }
        Routes from = routesFromHere();
        int turns = from.seekMeeting(t, u, waits);
        if (turns == NONE || what == 0) {
            return turns;
        }
        return what == 1 ? from.landings.up[from.meeting] : from.landings.low[from.meeting];
    }

    // ---- addresses, neighbours

    public int address(int up, int low, int k) {
        if (!asksFloor(up, low)) {
            return BAD_NUMBER;
        }
        int n = layTerms(asked.up, asked.low);
        if (k == NONE) {
            return n;
        }
        return k >= 0 && k < n ? (int) terms[k] : NONE;
    }

    public int neighbour(int up, int low, int d, boolean above, int what) {
        if (what < 0 || what > 1) {
            return NO_SUCH;
        }
        if (d < 1 || d > MOST_NEAR_LOWER || !asksFloor(up, low)) {
            return BAD_NUMBER;
        }
        boolean found = above ? seekAbove(d) : seekBelow(d);
        return found ? (int) spare.part(what) : NONE;
    }

    public int simplest(int up, int low, int otherUp, int otherLow, int what) {
        if (what < 0 || what > 1) {
            return NO_SUCH;
        }
        if (!asksFloor(otherUp, otherLow)) {
            return BAD_NUMBER;
        }
        spare.put(asked.up, asked.low);
        if (!asksFloor(up, low)) {
            return BAD_NUMBER;
        }
        int order = asked.compared(spare);
        if (order == 0) {
            return BAD_NUMBER;
        }
        if (order < 0) {
            seekSimplest(asked.up, asked.low, spare.up, spare.low);
        } else {
            seekSimplest(spare.up, spare.low, asked.up, asked.low);
        }
        return (int) asked.part(what);
    }

    public int floors(int d) {
        if (d < 1 || d > MOST_COUNTED_LOWER) {
            return BAD_NUMBER;
        }
        return countBelow(now.top, 1, d) + 1;
    }

    public int rank(int up, int low, int d) {
        if (d < 1 || d > MOST_COUNTED_LOWER || !asksFloor(up, low)) {
            return BAD_NUMBER;
        }
        return countBelow(asked.up, asked.low, d);
    }

    public int parts(int up, int low, int k) {
        if (!asksFloor(up, low)) {
            return BAD_NUMBER;
        }
        int n = layParts();
        if (n < 0 || k == NONE) {
            return n;
        }
        return k >= 0 && k < n ? (int) terms[k] : NONE;
    }

    // ---- tenants, rents

    public long rent(int t, int what) {
        if (t < 0 || t >= now.tenantCount || what < 0 || what > 1) {
            return NO_SUCH;
        }
        now.rentOf(t, spare);
        return spare.part(what);
    }

    public int rents() {
        long sum = 0;
        for (int t = 0; t < now.tenantCount; t++) {
            now.rentOf(t, spare);
            spare.put(spare.up * 100, spare.low);
            sum += spare.whole();
        }
        return (int) sum;
    }

    public int moves(int t, int up, int low) {
        if (t < 0 || t >= now.tenantCount) {
            return NO_SUCH;
        }
        if (!asksFloor(up, low) || asked.low > MOST_LOWER_TOLD) {
            return BAD_NUMBER;
        }
        now.rentOf(t, spare);
        now.tenantUp[t] = (int) asked.up;
        now.tenantLow[t] = (int) asked.low;
        now.rentOf(t, asked);
        return asked.compared(spare);
    }

    public long fairest(int t, int what) {
        if (t < 0 || t >= now.tenantCount || what < 0 || what > 3) {
            return NO_SUCH;
        }
        if (now.tenantCount < 2) {
            return NONE;
        }
        seekFairest(t);
        return what < 2 ? asked.part(what) : spare.part(what - 2);
    }

    public int richest() {
        int best = NONE;
        for (int t = 0; t < now.tenantCount; t++) {
            now.rentOf(t, spare);
            if (best == NONE || spare.compared(asked) > 0) {
                best = t;
                asked.put(spare.up, spare.low);
            }
        }
        return best;
    }

    // ---- seen, odds

    public int fits(int tray, int k) {
        int refused = refusedSeen(tray);
        if (refused != 0) {
            return refused;
        }
        if (!fewRows(trays[tray].size)) {
            return SPENT;
        }
        Watcher all = watcherHere();
        all.watchAll(now, trays[tray], k);
        return k == NONE ? all.fitting : all.wantedDigits;
    }

    public int sure(int tray, int place) {
        int refused = refusedSeen(tray);
        if (refused != 0) {
            return refused;
        }
        if (place < 0 || place >= trays[tray].size) {
            return BAD_NUMBER;
        }
        if (!fewRows(trays[tray].size)) {
            return SPENT;
        }
        Watcher all = watcherHere();
        all.watchAll(now, trays[tray], NONE);
        return all.fitting > 0 ? all.common[place] : NONE;
    }

    public long odds(int tray, int up, int low) {
        int refused = refusedRow(tray, 1);
        if (refused != 0) {
            return refused;
        }
        if (!asksFloor(up, low) || !hasButtonsAlone(trays[tray])) {
            return BAD_NUMBER;
        }
        Routes from = routesFromHere();
        int begin = from.layChances(trays[tray]);
        return from.landings.weightOf((int) asked.up, (int) asked.low, begin);
    }

    public int ends(int tray) {
        int refused = refusedRow(tray, 1);
        if (refused != 0) {
            return refused;
        }
        if (!hasButtonsAlone(trays[tray])) {
            return BAD_NUMBER;
        }
        Routes from = routesFromHere();
        int begin = from.layChances(trays[tray]);
        return from.landings.size - begin;
    }

    // ---- trays, images

    public int numbers(int tray, int sort, int n) {
        if (tray < 0 || tray >= MOST_TRAYS || sort < 0 || sort > 3) {
            return NO_SUCH;
        }
        if (n < 0 || n > MOST_IN_TRAY) {
            return BAD_NUMBER;
        }
        if (trays[tray] == null) {
            trays[tray] = new Tray();
        }
        trays[tray].layOut(sort, n);
        return 0;
    }

    public long write(int tray, int i, long v) {
        int refused = refusedTray(tray);
        if (refused != 0) {
            return refused;
        }
        return trays[tray].lay(i, v);
    }

    public int copy(int tray) {
        int refused = refusedTray(tray);
        if (refused != 0) {
            return refused;
        }
        Tray into = trays[tray];
        int n = Math.min(layTerms(now.atUp, now.atLow), into.size);
        for (int i = 0; i < n; i++) {
            into.lay(i, terms[i]);
        }
        return n;
    }

    public int image(int i) {
        if (i < 0 || i >= MOST_IMAGES) {
            return NO_SUCH;
        }
        if (images[i] == null) {
            images[i] = new House();
        }
        images[i].takeFrom(now);
        return 0;
    }

    public int restore(int i) {
        if (i < 0 || i >= MOST_IMAGES) {
            return NO_SUCH;
        }
        if (images[i] == null) {
            return NOT_NOW;
        }
        now.takeFrom(images[i]);
        undoable = 0;
        return 0;
    }

    public int count(int what) {
        switch (what) {
            case 0:
                return now.top;
            case 1:
                return now.buttonCount;
            case 2:
                return now.floorCount;
            case 3:
                return now.tenantCount;
            case 4:
                return now.stick;
            case 5:
                return undoable;
            case 6:
                return now.pressed;
            case 7:
                return taped;
            case 8:
                return now.lines;
            default:
                return NONE;
        }
    }

    // ---- what may be asked

    /** Puts the floor in lowest terms into asked; false if it is none. */
    private boolean asksFloor(int up, int low) {
        if (up < 0 || low < 1) {
            return false;
        }
        asked.put(up, low);
        return now.isFloor(asked.up, asked.low);
    }

    private static boolean isStuff(int stuff) {
        return stuff >= 0 && stuff < MOST_STUFFS;
    }

    private static boolean isModulus(int m) {
        return m >= 2 && m <= MOST_REMAINDER;
    }

    private int refusedTray(int tray) {
        if (tray < 0 || tray >= MOST_TRAYS) {
            return NO_SUCH;
        }
        return trays[tray] == null ? TRAY_MISSING : 0;
    }

    private int refusedRow(int tray, int least) {
        int refused = refusedTray(tray);
        if (refused != 0) {
            return refused;
        }
        int size = trays[tray].size;
        return size < least || size > MOST_IN_ROW ? TOO_MANY : 0;
    }

    private int refusedSeen(int tray) {
        int refused = refusedRow(tray, 2);
        if (refused != 0) {
            return refused;
        }
        Tray seen = trays[tray];
        for (int i = 0; i < seen.size; i++) {
            if (seen.values[i] < NONE || seen.values[i] >= now.floorCount) {
                return BAD_NUMBER;
            }
        }
        return 0;
    }

    private boolean hasButtonsAlone(Tray row) {
        for (int i = 0; i < row.size; i++) {
            if (row.values[i] < 0 || row.values[i] >= now.buttonCount) {
                return false;
            }
        }
        return true;
    }

    // ---- small steps

    private void tapeInt(int bytes) {
        for (int shift = 24; shift >= 0; shift -= 8) {
            if (taped < tape.length) {
                tape[taped] = bytes >>> shift & 255;
                taped++;
            }
        }
    }

    private static int nextDraw(int x) {
        return 1103515245 * x + 12345;
    }

    /** Why the button can't be; 0 when it was pressed. */
    private int pressOne(int button) {
        int why = reckoner.lead(now, button, now.atUp, now.atLow);
        if (why != 0) {
            return why;
        }
        if (undoable >= MOST_UNDONE) {
            forgetEldest();
        }
        undoUp[undoable] = now.atUp;
        undoLow[undoable] = now.atLow;
        undoable++;
        now.atUp = reckoner.up;
        now.atLow = reckoner.low;
        now.pressed++;
        return 0;
    }

    private void forgetEldest() {
        for (int i = 1; i < MOST_UNDONE; i++) {
            undoUp[i - 1] = undoUp[i];
            undoLow[i - 1] = undoLow[i];
        }
        undoable = MOST_UNDONE - 1;
    }

    private static long commonFactor(long a, long b) {
        long p = a;
        long q = b;
        for (int i = 0; i < EUCLID_STEPS && q != 0; i++) {
            long rest = p % q;
            p = q;
            q = rest;
        }
        return p < 0 ? -p : p;
    }

    private static int inverseBy(int r, int m) {
        for (int i = 1; i < m; i++) {
            if (r * i % m == 1) {
                return i;
            }
        }
        return NONE;
    }

    private static int remainderOf(long up, long low, int m) {
        if (m < 2) {
            return NONE;
        }
        int inverse = inverseBy((int) (low % m), m);
        return inverse == NONE ? NONE : (int) (up % m) * inverse % m;
    }

    // ---- remainders

    private boolean isNever(int m) {
        int remainder = remainderOf(asked.up, asked.low, m);
        return remainder != NONE && (remaindersBy(m) >>> remainder & 1) == 0;
    }

    private int remaindersBy(int m) {
        int all = (1 << m) - 1;
        int begin = remainderOf(now.atUp, now.atLow, m);
        if (begin == NONE) {
            return all;
        }
        int met = 1 << begin;
        int done = 0;
        for (int round = 0; round < m && done != met; round++) {
            int open = met & ~done;
            done = met;
            for (int r = 0; r < m; r++) {
                if ((open >>> r & 1) != 0) {
                    met |= remaindersFrom(r, m, all);
                }
            }
        }
        return met;
    }

    private int remaindersFrom(int r, int m, int all) {
        int led = 0;
        for (int b = 0; b < now.buttonCount; b++) {
            int next = reckoner.remainderLed(now, b, r, m);
            if (next == NONE) {
                return all;
            }
            led |= 1 << next;
        }
        return led;
    }

    // ---- addresses and neighbours

    /** The continued fraction comes into terms: how many numbers. */
    private int layTerms(long up, long low) {
        long p = up;
        long q = low;
        int n = 0;
        for (int i = 0; i < terms.length && q != 0; i++) {
            terms[i] = p / q;
            long rest = p % q;
            p = q;
            q = rest;
            n++;
        }
        return n;
    }

    /** The next floor above asked is put into spare. */
    private boolean seekAbove(int d) {
        long bestUp = now.top + 1;
        long bestLow = 1;
        if (asked.low < 1) {
            return false;
        }
        for (int q = 1; q <= d; q++) {
            long p = asked.up * q / asked.low + 1;
            if (p * bestLow < bestUp * q) {
                bestUp = p;
                bestLow = q;
            }
        }
        spare.put(bestUp, bestLow);
        return now.isFloor(spare.up, spare.low);
    }

    /** The next floor below asked is put into spare. */
    private boolean seekBelow(int d) {
        long bestUp = NONE;
        long bestLow = 1;
        if (asked.low < 1) {
            return false;
        }
        for (int q = 1; q <= d; q++) {
            long p = (asked.up * q + asked.low - 1) / asked.low - 1;
            if (p * bestLow > bestUp * q) {
                bestUp = p;
                bestLow = q;
            }
        }
        spare.put(bestUp, bestLow);
        return now.isFloor(spare.up, spare.low);
    }

    /**
     * Puts what is simplest between a/b and c/d into asked. As long as no whole number lies between, both begin
     * with the same one: what is left of both is turned over (a lower number 0 stands for what has no end).
     */
    private void seekSimplest(long fromUp, long fromLow, long toUp, long toLow) {
        long a = fromUp;
        long b = fromLow;
        long c = toUp;
        long d = toLow;
        long up = 1;
        long upBefore = 0;
        long low = 0;
        long lowBefore = 1;
        for (int i = 0; i < EUCLID_STEPS && b != 0; i++) {
            long whole = a / b;
            boolean between = (whole + 1) * d < c;
            long term = between ? whole + 1 : whole;
            long nextUp = term * up + upBefore;
            long nextLow = term * low + lowBefore;
            upBefore = up;
            lowBefore = low;
            up = nextUp;
            low = nextLow;
            if (between) {
                break;
            }
            long restFrom = a - whole * b;
            long restTo = c - whole * d;
            a = d;
            c = b;
            b = restTo;
            d = restFrom;
        }
        asked.put(up, low);
    }

    /** How many fractions with a lower number up to d are below up/low: of each lower number those in lowest terms. */
    private int countBelow(long up, long low, int d) {
        int sum = 0;
        if (low < 1) {
            return sum;
        }
        for (int q = 1; q <= d && q < counts.length; q++) {
            counts[q] = (int) ((up * q + low - 1) / low);
        }
        for (int q = 1; q <= d && q < counts.length; q++) {
            sum += counts[q];
            for (int times = 2 * q; times <= d && times < counts.length; times += q) {
                counts[times] -= counts[q];
            }
        }
        return sum;
    }

    /** The parts of asked come into terms: how many, or -4. */
    private int layParts() {
        spare.put(asked.up - asked.whole() * asked.low, asked.low);
        int n = 0;
        for (int i = 0; i < terms.length && spare.up > 0; i++) {
            long part = (spare.low + spare.up - 1) / spare.up;
            if (part > WAY_LIMIT) {
                return TOO_MANY;
            }
            terms[i] = part;
            n++;
            spare.put(spare.up * part - spare.low, spare.low * part);
            if (spare.low > WAY_LIMIT) {
                return TOO_MANY;
            }
        }
        return n;
    }

    // ---- the fairest floor

    /** Puts the fairest floor into asked, how far it is from all others into spare. */
    private void seekFairest(int t) {
        long unit = fairUnit(t);
        long best = NONE;
        long bestSpot = 0;
        for (int q = 1; q <= MOST_FAIR_LOWER; q++) {
            long width = unit / q;
            for (int p = 0; p <= now.top * q; p++) {
                long far = farFromOthers(t, p * width, unit);
                if (best == NONE || far < best || far == best && p * width < bestSpot) {
                    best = far;
                    bestSpot = p * width;
                }
            }
        }
        asked.put(bestSpot, unit);
        spare.put(best, unit);
    }

    /** One by this is a measure that all other tenants and all floors that may be fair are whole numbers of. */
    private long fairUnit(int t) {
        long unit = FAIR_UNIT;
        for (int u = 0; u < now.tenantCount; u++) {
            if (u != t) {
                long low = now.tenantLow[u];
                long common = commonFactor(unit, low);
                if (common > 0) {
                    unit = unit / common * low;
                }
            }
        }
        return unit;
    }

    private long farFromOthers(int t, long spot, long unit) {
        long far = 0;
        for (int u = 0; u < now.tenantCount; u++) {
            long low = now.tenantLow[u];
            if (u != t && low > 0) {
                far += Math.abs(spot - unit / low * now.tenantUp[u]);
            }
        }
        return far;
    }

    // ---- searches

    private boolean fewRows(int n) {
        long rows = 1;
        for (int i = 0; i < n; i++) {
            rows *= now.buttonCount;
        }
        return rows <= MOST_ROWS_SEEN;
    }

    /** What searches need is made when it is first asked for: it is the dearest of all. */
    private Routes routesFromHere() {
        if (routes == null) {
            routes = new Routes(reckoner);
        }
        routes.begin(now);
        return routes;
    }

    private Watcher watcherHere() {
        if (watcher == null) {
            watcher = new Watcher(reckoner);
        }
        return watcher;
    }

    // ---- classes inside

    /** A fraction in lowest terms that can be put anew. */
    private static final class Ratio {
        long up;
        long low;

        Ratio() {
            up = 0;
            low = 1;
        }

        void put(long newUp, long newLow) {
            long common = commonFactor(newUp, newLow);
            if (common == 0) {
                common = 1;
            }
            if (newLow < 0) {
                common = -common;
            }
            up = newUp / common;
            low = newLow / common;
        }

        long part(int what) {
            return what == 0 ? up : low;
        }

        long whole() {
            return low > 0 ? up / low : 0;
        }

        /** 1 if it is above the other one, 0 if both are one, -1 if it is below. */
        int compared(Ratio than) {
            return Long.compare(up * than.low, than.up * low);
        }
    }

    /** All that an image keeps: what the text told, floors and tenants as they are, where the lift is. */
    private static final class House {
        int top;
        int stick;
        int lines;
        int pressed;
        int atUp;
        int atLow;
        int buttonCount;
        /** Button b stands in code from starts[b] to starts[b + 1] - 1. */
        final int[] starts;
        /** Numbers as they are, x, top and signs as CODE_..; signs stand behind what they join. */
        final int[] code;
        int floorCount;
        final int[] floorUp;
        final int[] floorLow;
        final int[] stuffs;
        final int[] newStuffs;
        /** Numbers of the told floors, from below. */
        final int[] order;
        int tenantCount;
        final int[] tenantUp;
        final int[] tenantLow;

        House() {
            top = 4;
            atLow = 1;
            starts = new int[MOST_BUTTONS + 1];
            code = new int[MOST_BYTES];
            floorUp = new int[MOST_FLOORS];
            floorLow = new int[MOST_FLOORS];
            stuffs = new int[MOST_FLOORS * MOST_STUFFS];
            newStuffs = new int[MOST_STUFFS];
            order = new int[MOST_FLOORS];
            tenantUp = new int[MOST_TENANTS];
            tenantLow = new int[MOST_TENANTS];
        }

        void untell() {
            top = 4;
            stick = 0;
            lines = 0;
            pressed = 0;
            atUp = 0;
            atLow = 1;
            buttonCount = 0;
            floorCount = 0;
            tenantCount = 0;
        }

        void takeFrom(House from) {
            top = from.top;
            stick = from.stick;
            lines = from.lines;
            pressed = from.pressed;
            atUp = from.atUp;
            atLow = from.atLow;
            buttonCount = from.buttonCount;
            System.arraycopy(from.starts, 0, starts, 0, starts.length);
            System.arraycopy(from.code, 0, code, 0, code.length);
            floorCount = from.floorCount;
            System.arraycopy(from.floorUp, 0, floorUp, 0, floorUp.length);
            System.arraycopy(from.floorLow, 0, floorLow, 0, floorLow.length);
            System.arraycopy(from.stuffs, 0, stuffs, 0, stuffs.length);
            System.arraycopy(from.order, 0, order, 0, order.length);
            tenantCount = from.tenantCount;
            System.arraycopy(from.tenantUp, 0, tenantUp, 0, tenantUp.length);
            System.arraycopy(from.tenantLow, 0, tenantLow, 0, tenantLow.length);
        }

        boolean isFloor(long up, long low) {
            return up >= 0 && low >= 1 && up <= FLOOR_LIMIT && low <= FLOOR_LIMIT && up <= top * low;
        }

        int stuffOf(int k, int stuff) {
            int i = k * MOST_STUFFS + stuff;
            return i >= 0 && i < stuffs.length ? stuffs[i] : 0;
        }

        int floorAt(long up, long low) {
            for (int k = 0; k < floorCount; k++) {
                if (floorUp[k] == up && floorLow[k] == low) {
                    return k;
                }
            }
            return NONE;
        }

        int placeFromBelow(int k) {
            for (int i = 0; i < floorCount; i++) {
                if (order[i] == k) {
                    return i;
                }
            }
            return NONE;
        }

        /** How many told floors are below a floor. */
        int toldBelow(long up, long low) {
            int below = 0;
            for (int k = 0; k < floorCount; k++) {
                if (floorUp[k] * low < up * floorLow[k]) {
                    below++;
                }
            }
            return below;
        }

        /** A floor with newStuffs is told. */
        void addFloor(int up, int low) {
            if (floorCount >= MOST_FLOORS) {
                return;
            }
            int place = toldBelow(up, low);
            for (int i = floorCount; i > place; i--) {
                order[i] = order[i - 1];
            }
            order[place] = floorCount;
            floorUp[floorCount] = up;
            floorLow[floorCount] = low;
            System.arraycopy(newStuffs, 0, stuffs, floorCount * MOST_STUFFS, MOST_STUFFS);
            floorCount++;
        }

        void addTenant(int up, int low) {
            if (tenantCount < MOST_TENANTS) {
                tenantUp[tenantCount] = up;
                tenantLow[tenantCount] = low;
                tenantCount++;
            }
        }

        void stuffAt(int stuff, long up, long low, Ratio into) {
            if (floorCount == 0) {
                into.put(0, 1);
                return;
            }
            int place = toldBelow(up, low);
            if (place == floorCount) {
                into.put(stuffOf(order[place - 1], stuff), 1);
                return;
            }
            int k = order[place];
            if (place == 0) {
                into.put(stuffOf(k, stuff), 1);
                return;
            }
            int below = order[place - 1];
            long width = widthBetween(below, k);
            long gone = up * floorLow[below] - floorUp[below] * low;
            long more = stuffOf(k, stuff) - stuffOf(below, stuff);
            into.put(stuffOf(below, stuff) * low * width + more * gone * floorLow[k], low * width);
        }

        /** How far two told floors are from one another, times both lower numbers. */
        long widthBetween(int below, int above) {
            return (long) floorUp[above] * floorLow[below] - (long) floorUp[below] * floorLow[above];
        }

        /** The least fraction where a stuff is n, or as much as another one (not NONE), is put. */
        boolean leastLevel(int stuff, int another, int n, Ratio into) {
            into.put(0, 1);
            if (floorCount == 0) {
                return n == 0;
            }
            int before = overAt(order[0], stuff, another, n);
            if (before == 0) {
                return true;
            }
            for (int i = 1; i < floorCount; i++) {
                int over = overAt(order[i], stuff, another, n);
                if (over == 0 || over > 0 != before > 0) {
                    putCrossing(order[i - 1], order[i], before, over, into);
                    return true;
                }
                before = over;
            }
            return false;
        }

        int overAt(int k, int stuff, int another, int n) {
            return stuffOf(k, stuff) - (another == NONE ? n : stuffOf(k, another));
        }

        /** Where what goes straight from one value to the other is 0; the first value is not. */
        void putCrossing(int below, int above, int before, int after, Ratio into) {
            long fall = before - after;
            long lows = (long) floorLow[below] * floorLow[above];
            long up = floorUp[below] * floorLow[above] * fall + widthBetween(below, above) * before;
            into.put(up, lows * fall);
        }

        void rentOf(int t, Ratio into) {
            stuffAt(0, tenantUp[t], tenantLow[t], into);
        }
    }

    /** The tokens of a text, up to the first place where none begins. */
    private static final class Tokens {
        static final int WRONG = 0;
        static final int END = 1;
        static final int NUMBER = 2;
        static final int OTHER_WORD = 3;
        static final int TOP = 4;
        static final int BUTTON = 5;
        static final int FLOOR = 6;
        static final int TENANT = 7;
        static final int AT = 8;
        static final int STICK = 9;
        static final int HAS = 10;
        static final int X = 11;

        int size;
        /** Of a sign its byte. */
        final int[] kinds;
        final int[] places;
        /** Of an N how much it is. */
        final int[] amounts;
        private int[] text;
        private int length;

        Tokens() {
            kinds = new int[MOST_BYTES + 1];
            places = new int[MOST_BYTES + 1];
            amounts = new int[MOST_BYTES + 1];
        }

        /** The last one is WRONG or the END. */
        void scanAll(int[] bytes, int n) {
            text = bytes;
            length = Math.min(n, bytes.length);
            size = 0;
            int begin = behindBlanks(0);
            for (int i = 0; i < length && begin < length; i++) {
                int end = endOf(begin);
                int kind = kindOf(begin, end);
                add(kind, begin, kind == NUMBER ? amountOf(begin, end) : 0);
                if (kind == WRONG) {
                    return;
                }
                begin = behindBlanks(end);
            }
            add(END, length, 0);
        }

        private void add(int kind, int place, int amount) {
            if (size < kinds.length) {
                kinds[size] = kind;
                places[size] = place;
                amounts[size] = amount;
                size++;
            }
        }

        private int behindBlanks(int from) {
            int i = from;
            while (i < length && (text[i] == 32 || text[i] == 10)) {
                i++;
            }
            return i;
        }

        private int endOf(int begin) {
            int i = begin;
            if (isDigit(text[begin])) {
                while (i < length && isDigit(text[i])) {
                    i++;
                }
                return i;
            }
            while (i < length && isLetter(text[i])) {
                i++;
            }
            return i == begin ? begin + 1 : i;
        }

        private int kindOf(int begin, int end) {
            int first = text[begin];
            if (isDigit(first)) {
                return end - begin > 3 ? WRONG : NUMBER;
            }
            if (isLetter(first)) {
                return wordKind(begin, end - begin);
            }
            return isSign(first) ? first : WRONG;
        }

        private int amountOf(int begin, int end) {
            int amount = 0;
            for (int i = begin; i < end; i++) {
                amount = amount * 10 + text[i] - '0';
            }
            return amount;
        }

        private int wordKind(int begin, int n) {
            if (isWord("x", begin, n)) {
                return X;
            }
            if (isWord("top", begin, n)) {
                return TOP;
            }
            if (isWord("button", begin, n)) {
                return BUTTON;
            }
            if (isWord("floor", begin, n)) {
                return FLOOR;
            }
            if (isWord("has", begin, n)) {
                return HAS;
            }
            if (isWord("tenant", begin, n)) {
                return TENANT;
            }
            if (isWord("at", begin, n)) {
                return AT;
            }
            return isWord("stick", begin, n) ? STICK : OTHER_WORD;
        }

        private boolean isWord(String word, int begin, int n) {
            if (word.length() != n) {
                return false;
            }
            for (int i = 0; i < n; i++) {
                if (text[begin + i] != word.charAt(i)) {
                    return false;
                }
            }
            return true;
        }

        private static boolean isDigit(int c) {
            return c >= '0' && c <= '9';
        }

        private static boolean isLetter(int c) {
            return c >= 'a' && c <= 'z';
        }

        private static boolean isSign(int c) {
            return c >= '(' && c <= '+' || c == '-' || c == '/' || c == ':' || c == ';';
        }
    }

    /** Reads a text into a house, up to the first fault. */
    private static final class Reader {
        House into;
        int faultKind;
        int faultPlace;
        private final Tokens tokens;
        private int index;
        /** The token that is looked at: its kind (a sign: its byte), its place, its number. */
        private int kind;
        private int place;
        private int number;
        private int value;
        private boolean atTold;
        private int codeSize;
        private final int[] signs;
        private int signCount;
        private final Ratio fraction;

        Reader() {
            into = new House();
            tokens = new Tokens();
            signs = new int[PILE];
            fraction = new Ratio();
        }

        void readAll(int[] bytes, int n) {
            faultKind = 0;
            faultPlace = NONE;
            atTold = false;
            codeSize = 0;
            into.untell();
            tokens.scanAll(bytes, n);
            lookAt(0);
            for (int i = 0; i < tokens.size && kind != Tokens.END; i++) {
                if (!line() || !closes()) {
                    return;
                }
            }
        }

        private boolean line() {
            switch (kind) {
                case Tokens.TOP:
                    return topLine();
                case Tokens.BUTTON:
                    return buttonLine();
                case Tokens.FLOOR:
                    return floorLine();
                case Tokens.TENANT:
                    return tenantLine();
                case Tokens.AT:
                    return atLine();
                case Tokens.STICK:
                    return stickLine();
                default:
                    return cantStand();
            }
        }

        private boolean closes() {
            if (kind != ';') {
                return cantStand();
            }
            into.lines++;
            next();
            return true;
        }

        private boolean topLine() {
            if (atTold || into.floorCount > 0 || into.tenantCount > 0) {
                return cantStand();
            }
            next();
            if (!numberWithin(1, 9)) {
                return false;
            }
            into.top = value;
            return true;
        }

        private boolean stickLine() {
            next();
            if (!numberWithin(0, 9)) {
                return false;
            }
            into.stick = value;
            return true;
        }

        private boolean atLine() {
            next();
            if (!fractionThen(';')) {
                return false;
            }
            into.atUp = (int) fraction.up;
            into.atLow = (int) fraction.low;
            atTold = true;
            return true;
        }

        private boolean tenantLine() {
            if (into.tenantCount >= MOST_TENANTS) {
                return failed(4);
            }
            next();
            if (!fractionThen(';')) {
                return false;
            }
            into.addTenant((int) fraction.up, (int) fraction.low);
            return true;
        }

        private boolean floorLine() {
            if (into.floorCount >= MOST_FLOORS) {
                return failed(4);
            }
            next();
            if (!fractionThen(Tokens.HAS)) {
                return false;
            }
            if (into.floorAt(fraction.up, fraction.low) != NONE) {
                return failed(3);
            }
            next();
            for (int s = 0; s < MOST_STUFFS; s++) {
                if (!numberWithin(0, 99)) {
                    return false;
                }
                into.newStuffs[s] = value;
            }
            into.addFloor((int) fraction.up, (int) fraction.low);
            return true;
        }

        private boolean buttonLine() {
            int b = into.buttonCount;
            if (b >= MOST_BUTTONS) {
                return failed(4);
            }
            next();
            if (kind != ':') {
                return cantStand();
            }
            next();
            into.starts[b] = codeSize;
            if (!sumToEnd()) {
                return false;
            }
            into.starts[b + 1] = codeSize;
            into.buttonCount = b + 1;
            return true;
        }

        /** A fraction, and behind it the token that must be there, which is looked at then. */
        private boolean fractionThen(int expected) {
            if (!numberWithin(0, 999)) {
                return false;
            }
            int up = value;
            int low = 1;
            if (kind == '/') {
                next();
                if (!numberWithin(1, 99)) {
                    return false;
                }
                low = value;
            }
            if (kind != expected) {
                return cantStand();
            }
            fraction.put(up, low);
            return into.isFloor(fraction.up, fraction.low) || failed(3);
        }

        private boolean numberWithin(int least, int most) {
            if (kind != Tokens.NUMBER) {
                return cantStand();
            }
            if (number < least || number > most) {
                return failed(3);
            }
            value = number;
            next();
            return true;
        }

        /** A sum up to its ; with signs put behind what they join. */
        private boolean sumToEnd() {
            int nested = 0;
            boolean wantsAtom = true;
            signCount = 0;
            for (int i = 0; i < tokens.size; i++) {
                if (wantsAtom && kind == '(') {
                    if (nested >= MOST_NESTED) {
                        return failed(4);
                    }
                    nested++;
                    pushSign(CODE_OPEN);
                } else if (wantsAtom) {
                    if (!atom()) {
                        return cantStand();
                    }
                    wantsAtom = false;
                } else if (kind == ')' && nested > 0) {
                    nested--;
                    popSigns(0);
                    dropSign();
                } else if (kind == ';' && nested == 0) {
                    popSigns(0);
                    return true;
                } else if (signCode() != 0) {
                    popSigns(strength(signCode()));
                    pushSign(signCode());
                    wantsAtom = true;
                } else {
                    return cantStand();
                }
                next();
            }
            return cantStand();
        }

        private boolean atom() {
            switch (kind) {
                case Tokens.NUMBER:
                    emit(number);
                    return true;
                case Tokens.X:
                    emit(CODE_X);
                    return true;
                case Tokens.TOP:
                    emit(CODE_TOP);
                    return true;
                default:
                    return false;
            }
        }

        private int signCode() {
            switch (kind) {
                case '+':
                    return CODE_PLUS;
                case '-':
                    return CODE_MINUS;
                case '*':
                    return CODE_TIMES;
                case '/':
                    return CODE_OVER;
                default:
                    return 0;
            }
        }

        private static int strength(int sign) {
            if (sign == CODE_OPEN) {
                return NONE;
            }
            return sign == CODE_TIMES || sign == CODE_OVER ? 1 : 0;
        }

        /** Signs that are as strong or stronger come out, up to the latest ( that is open. */
        private void popSigns(int least) {
            for (int i = signCount - 1; i >= 0 && i < PILE && strength(signs[i]) >= least; i--) {
                emit(signs[i]);
                signCount = i;
            }
        }

        private void dropSign() {
            if (signCount > 0) {
                signCount--;
            }
        }

        private void pushSign(int sign) {
            if (signCount < PILE) {
                signs[signCount] = sign;
                signCount++;
            }
        }

        private void emit(int step) {
            if (codeSize < into.code.length) {
                into.code[codeSize] = step;
                codeSize++;
            }
        }

        private boolean cantStand() {
            return failed(kind == Tokens.WRONG ? 1 : 2);
        }

        /** The fault is at the token that is looked at. */
        private boolean failed(int fault) {
            faultKind = fault;
            faultPlace = place;
            return false;
        }

        /** Looks at a token; the last one is never left. */
        private void lookAt(int i) {
            index = i < tokens.size ? i : tokens.size - 1;
            if (index >= 0) {
                kind = tokens.kinds[index];
                place = tokens.places[index];
                number = tokens.amounts[index];
            }
        }

        private void next() {
            lookAt(index + 1);
        }
    }

    /** Reckons where buttons lead: exactly, or by remainders. */
    private static final class Reckoner {
        /** Where the latest button led that can be. */
        int up;
        int low;
        private final long[] ups;
        private final long[] lows;
        private int piled;

        Reckoner() {
            ups = new long[PILE];
            lows = new long[PILE];
        }

        /** Why the button can't be from a floor; 0 if it can. */
        int lead(House h, int button, long fromUp, long fromLow) {
            if (button < 0 || button >= h.buttonCount) {
                return 1;
            }
            piled = 0;
            int end = h.starts[button + 1];
            for (int i = h.starts[button]; i < end; i++) {
                int step = h.code[i];
                int why = 0;
                if (step >= 0) {
                    pile(step, 1);
                } else if (step == CODE_X) {
                    pile(fromUp, fromLow);
                } else if (step == CODE_TOP) {
                    pile(h.top, 1);
                } else {
                    why = join(step);
                }
                if (why != 0) {
                    return why;
                }
            }
            if (piled != 1 || !h.isFloor(ups[0], lows[0])) {
                return 4;
            }
            up = (int) ups[0];
            low = (int) lows[0];
            return 0;
        }

        private void pile(long newUp, long newLow) {
            if (piled < PILE) {
                ups[piled] = newUp;
                lows[piled] = newLow;
                piled++;
            }
        }

        /** Two numbers on the pile become one. */
        private int join(int sign) {
            if (piled < 2) {
                return 4;
            }
            piled--;
            long a = ups[piled - 1];
            long b = lows[piled - 1];
            long c = ups[piled];
            long d = lows[piled];
            switch (sign) {
                case CODE_PLUS:
                    return settle(a * d + c * b, b * d);
                case CODE_MINUS:
                    return settle(a * d - c * b, b * d);
                case CODE_TIMES:
                    return settle(a * c, b * d);
                default:
                    if (c == 0) {
                        return 2;
                    }
                    return c < 0 ? settle(-a * d, -c * b) : settle(a * d, c * b);
            }
        }

        private int settle(long newUp, long newLow) {
            long common = newLow == 1 ? 1 : commonFactor(newUp, newLow);
            if (common < 1) {
                return 2;
            }
            long u = newUp / common;
            long l = newLow / common;
            ups[piled - 1] = u;
            lows[piled - 1] = l;
            return Math.abs(u) > WAY_LIMIT || l > WAY_LIMIT ? 3 : 0;
        }

        /** Where the button leads by remainders; NONE if something is divided by what has no inverse. */
        int remainderLed(House h, int button, int x, int m) {
            if (button < 0 || button >= h.buttonCount || m < 2) {
                return NONE;
            }
            piled = 0;
            int end = h.starts[button + 1];
            for (int i = h.starts[button]; i < end; i++) {
                int step = h.code[i];
                if (step >= 0) {
                    pile(step % m, 1);
                } else if (step == CODE_X) {
                    pile(x, 1);
                } else if (step == CODE_TOP) {
                    pile(h.top % m, 1);
                } else if (!joinBy(step, m)) {
                    return NONE;
                }
            }
            return piled == 1 ? (int) ups[0] : NONE;
        }

        private boolean joinBy(int sign, int m) {
            if (piled < 2 || m < 2) {
                return false;
            }
            piled--;
            int a = (int) ups[piled - 1];
            int c = (int) ups[piled];
            int joined;
            switch (sign) {
                case CODE_PLUS:
                    joined = (a + c) % m;
                    break;
                case CODE_MINUS:
                    joined = (a - c + m) % m;
                    break;
                case CODE_TIMES:
                    joined = a * c % m;
                    break;
                default:
                    int inverse = inverseBy(c, m);
                    if (inverse == NONE) {
                        return false;
                    }
                    joined = a * inverse % m;
            }
            ups[piled - 1] = joined;
            return true;
        }
    }

    /** Floors that were come to, one behind the other, found again by their numbers. */
    private static final class Landings {
        final int[] up;
        final int[] low;
        /** The landing times 6 and the button from which it was come to; NONE for the first. */
        final int[] came;
        /** How much the first landings weigh, where odds are asked. */
        final long[] weight;
        int size;
        private final int[] heads;
        private final int[] nexts;

        Landings() {
            up = new int[MOST_LANDINGS];
            low = new int[MOST_LANDINGS];
            came = new int[MOST_LANDINGS];
            nexts = new int[MOST_LANDINGS];
            heads = new int[LANDING_HEADS];
            weight = new long[MOST_CHANCES];
        }

        void clearAll() {
            size = 0;
            Arrays.fill(heads, NONE);
        }

        private static int headOf(int u, int l) {
            int mixed = u * 31 + l * 1000003;
            return (mixed ^ mixed >>> 15) & LANDING_HEADS - 1;
        }

        void put(int u, int l, int from) {
            if (size >= MOST_LANDINGS) {
                return;
            }
            int head = headOf(u, l);
            up[size] = u;
            low[size] = l;
            came[size] = from;
            nexts[size] = heads[head];
            heads[head] = size;
            size++;
        }

        /** A floor among the landings from begin to end - 1. The latest stand first in their chains. */
        int find(int u, int l, int begin, int end) {
            int i = heads[headOf(u, l)];
            for (int n = 0; n < MOST_LANDINGS && i >= begin && i >= 0; n++) {
                if (i < end && up[i] == u && low[i] == l) {
                    return i;
                }
                i = nexts[i];
            }
            return NONE;
        }

        boolean isBelow(int i, int than) {
            return (long) up[i] * low[than] < (long) up[than] * low[i];
        }

        long weightOf(int u, int l, int begin) {
            int i = find(u, l, begin, size);
            return i >= 0 && i < MOST_CHANCES ? weight[i] : 0;
        }

        void addWeight(int u, int l, int begin, long more) {
            int i = find(u, l, begin, size);
            if (i == NONE) {
                i = size;
                put(u, l, NONE);
                if (i < MOST_CHANCES) {
                    weight[i] = 0;
                }
            }
            if (i < MOST_CHANCES) {
                weight[i] += more;
            }
        }
    }

    /** Searches over floors, from where the lift is. */
    private static final class Routes {
        final Landings landings;
        final int[] firstRow;
        final int[] secondRow;
        /** The landing at which two tenants meet. */
        int meeting;
        private final Reckoner reckoner;
        private House house;
        /** The step to the told floor: a landing times 6 and the button. */
        private int lastStep;

        Routes(Reckoner shared) {
            reckoner = shared;
            landings = new Landings();
            firstRow = new int[MOST_IN_ROW];
            secondRow = new int[MOST_IN_ROW];
        }

        void begin(House here) {
            house = here;
            landings.clearAll();
            landings.put(here.atUp, here.atLow, NONE);
        }

        int seekFewest(int up, int low) {
            if (house.atUp == up && house.atLow == low) {
                return 0;
            }
            int begin = 0;
            for (int n = 1; n <= MOST_IN_ROW; n++) {
                int end = landings.size;
                if (stepTowards(up, low, begin, end)) {
                    traceRow(lastStep, n, firstRow);
                    return n;
                }
                if (landings.size > MOST_MET) {
                    return SPENT;
                }
                if (landings.size == end) {
                    return NONE;
                }
                begin = end;
            }
            return NONE;
        }

        /** No more are kept than show that too many were met: beyond these only the told floor matters. */
        private boolean stepTowards(int up, int low, int begin, int end) {
            for (int i = begin; i < end; i++) {
                for (int b = 0; b < house.buttonCount; b++) {
                    if (reckoner.lead(house, b, landings.up[i], landings.low[i]) != 0) {
                        continue;
                    }
                    if (reckoner.up == up && reckoner.low == low) {
                        lastStep = i * MOST_BUTTONS + b;
                        return true;
                    }
                    if (landings.size <= MOST_MET
                            && landings.find(reckoner.up, reckoner.low, 0, landings.size) == NONE) {
                        landings.put(reckoner.up, reckoner.low, i * MOST_BUTTONS + b);
                    }
                }
            }
            return false;
        }

        /** Walks back from a step and lays out the n buttons that led there. */
        private void traceRow(int step, int n, int[] row) {
            int back = step;
            for (int k = n - 1; k >= 0 && k < row.length && back >= 0; k--) {
                row[k] = back % MOST_BUTTONS;
                int landing = back / MOST_BUTTONS;
                back = landing < landings.size ? landings.came[landing] : NONE;
            }
        }

        /** Floors that just n buttons lead to stand from the answer on to the landings' end. */
        int layFloors(int n) {
            int begin = 0;
            for (int k = 1; k <= n; k++) {
                int end = landings.size;
                spread(begin, end, end);
                begin = end;
            }
            return begin;
        }

        /** Where all buttons lead from landings begin to end - 1, each floor once among those from fresh on. */
        private void spread(int begin, int end, int fresh) {
            for (int i = begin; i < end; i++) {
                for (int b = 0; b < house.buttonCount; b++) {
                    if (reckoner.lead(house, b, landings.up[i], landings.low[i]) == 0
                            && landings.find(reckoner.up, reckoner.low, fresh, landings.size) == NONE) {
                        landings.put(reckoner.up, reckoner.low, i * MOST_BUTTONS + b);
                    }
                }
            }
        }

        int greatestFrom(int begin) {
            int best = NONE;
            for (int i = begin; i < landings.size; i++) {
                if (best == NONE || landings.isBelow(best, i)) {
                    best = i;
                }
            }
            return best;
        }

        /** As long as there are no twins each landing is one row, in the rows' order. */
        int seekTwins() {
            int begin = 0;
            for (int n = 1; n <= MOST_LAYERS; n++) {
                int end = landings.size;
                if (stepToTwins(begin, end, n)) {
                    return n;
                }
                begin = end;
            }
            return NONE;
        }

        private boolean stepToTwins(int begin, int end, int n) {
            for (int i = begin; i < end; i++) {
                for (int b = 0; b < house.buttonCount; b++) {
                    if (reckoner.lead(house, b, landings.up[i], landings.low[i]) != 0) {
                        continue;
                    }
                    int step = i * MOST_BUTTONS + b;
                    int twin = landings.find(reckoner.up, reckoner.low, end, landings.size);
                    if (twin != NONE) {
                        traceRow(landings.came[twin], n, firstRow);
                        traceRow(step, n, secondRow);
                        return true;
                    }
                    landings.put(reckoner.up, reckoner.low, step);
                }
            }
            return false;
        }

        /** The turns till two tenants meet. The first one's floors stand ahead of the second one's. */
        int seekMeeting(int t, int u, boolean waits) {
            int firstBegin = landings.size;
            landings.put(house.tenantUp[t], house.tenantLow[t], NONE);
            int secondBegin = landings.size;
            landings.put(house.tenantUp[u], house.tenantLow[u], NONE);
            for (int turns = 0; turns <= MOST_TURNS; turns++) {
                int end = landings.size;
                meeting = leastCommon(firstBegin, secondBegin, end);
                if (meeting != NONE) {
                    return turns;
                }
                if (turns < MOST_TURNS) {
                    spread(firstBegin, secondBegin, end);
                    int fresh = landings.size;
                    if (waits) {
                        stay(secondBegin, end);
                    }
                    spread(secondBegin, end, fresh);
                    firstBegin = end;
                    secondBegin = fresh;
                }
            }
            return NONE;
        }

        /** Who waits is once more where he was. */
        private void stay(int begin, int end) {
            for (int i = begin; i < end; i++) {
                landings.put(landings.up[i], landings.low[i], NONE);
            }
        }

        private int leastCommon(int firstBegin, int secondBegin, int end) {
            int best = NONE;
            for (int i = secondBegin; i < end; i++) {
                if ((best == NONE || landings.isBelow(i, best))
                        && landings.find(landings.up[i], landings.low[i], firstBegin, secondBegin) != NONE) {
                    best = i;
                }
            }
            return best;
        }

        /** Floors at which the lift may be behind a row stand from the answer on, each with its weight. */
        int layChances(Tray row) {
            landings.weight[0] = 1;
            int begin = 0;
            for (int k = 0; k < row.size; k++) {
                int end = landings.size;
                int button = row.smallAt(k);
                for (int i = begin; i < end && i < MOST_CHANCES; i++) {
                    branch(i, button, end);
                }
                begin = end;
            }
            return begin;
        }

        private void branch(int i, int button, int fresh) {
            long weight = landings.weight[i];
            int up = landings.up[i];
            int low = landings.low[i];
            if (reckoner.lead(house, button, up, low) != 0) {
                landings.addWeight(up, low, fresh, weight * 10);
                return;
            }
            landings.addWeight(reckoner.up, reckoner.low, fresh, weight * (10 - house.stick));
            if (house.stick > 0) {
                landings.addWeight(up, low, fresh, weight * house.stick);
            }
        }
    }

    /** Numbers of one sort, side by side. */
    private static final class Tray {
        int sort;
        int size;
        final long[] values;

        Tray() {
            values = new long[MOST_IN_TRAY];
        }

        void layOut(int newSort, int n) {
            sort = newSort;
            size = Math.min(n, MOST_IN_TRAY);
            Arrays.fill(values, 0L);
        }

        /** Number i as it is there then, or that there is none. */
        long lay(int i, long v) {
            if (i < 0 || i >= size) {
                return NO_PLACE;
            }
            values[i] = cut(v);
            return values[i];
        }

        private long cut(long v) {
            switch (sort) {
                case 0:
                    return (byte) v;
                case 1:
                    return (short) v;
                case 2:
                    return (int) v;
                default:
                    return v;
            }
        }

        /** A number that may tell a button or a floor; NONE for all that can't. */
        int smallAt(int i) {
            if (i < 0 || i >= size) {
                return NONE;
            }
            return values[i] >= 0 && values[i] < 100 ? (int) values[i] : NONE;
        }
    }

    /** Goes through all rows of buttons that fit what was seen, by numbers. */
    private static final class Watcher {
        int fitting;
        int wantedDigits;
        /** The button that is at a place of all rows so far; NONE if there are several. */
        final int[] common;
        private final int[] row;
        private final Reckoner reckoner;
        private House house;
        private Tray seen;
        private int wanted;

        Watcher(Reckoner shared) {
            reckoner = shared;
            common = new int[MOST_IN_ROW];
            row = new int[MOST_IN_ROW];
        }

        void watchAll(House in, Tray tray, int which) {
            house = in;
            seen = tray;
            wanted = which;
            fitting = 0;
            wantedDigits = NONE;
            goOn(0, in.atUp, in.atLow);
        }

        private void goOn(int place, int up, int low) {
            if (place >= seen.size || place >= MOST_IN_ROW) {
                takeRow(place);
                return;
            }
            int floor = seen.smallAt(place);
            for (int b = 0; b < house.buttonCount; b++) {
                if (reckoner.lead(house, b, up, low) == 0 && isSeenAt(floor)) {
                    row[place] = b;
                    goOn(place + 1, reckoner.up, reckoner.low);
                }
            }
        }

        private boolean isSeenAt(int floor) {
            if (floor < 0 || floor >= house.floorCount) {
                return true;
            }
            return house.floorUp[floor] == reckoner.up && house.floorLow[floor] == reckoner.low;
        }

        private void takeRow(int n) {
            int digits = 0;
            for (int i = 0; i < n; i++) {
                digits = digits * MOST_BUTTONS + row[i];
                if (fitting == 0) {
                    common[i] = row[i];
                } else if (common[i] != row[i]) {
                    common[i] = NONE;
                }
            }
            if (fitting == wanted) {
                wantedDigits = digits;
            }
            fitting++;
        }
    }
}
