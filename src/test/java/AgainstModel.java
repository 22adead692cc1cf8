import java.math.BigInteger;
import java.util.ArrayList;
import java.util.Arrays;
import java.util.Comparator;
import java.util.HashMap;
import java.util.HashSet;
import java.util.List;
import java.util.Map;
import java.util.Random;
import java.util.Set;
import java.util.TreeSet;

/**
 * Long runs of drawn calls (by fixed seeds) on the class and on a slow second reading of the document, which goes
 * through all rows, all fractions and all outcomes one by one.
 */
public final class AgainstModel {
    static final int NONE = -1;
    static final int SPENT = -1000;

    // ------------------------------------------------------------------ fractions

    static final class Q implements Comparable<Q> {
        final BigInteger n;
        final BigInteger d;

        Q(BigInteger n, BigInteger d) {
            if (d.signum() < 0) {
                n = n.negate();
                d = d.negate();
            }
            BigInteger g = n.gcd(d);
            this.n = n.divide(g);
            this.d = d.divide(g);
        }

        static Q of(long n, long d) {
            return new Q(BigInteger.valueOf(n), BigInteger.valueOf(d));
        }

        Q plus(Q o) {
            return new Q(n.multiply(o.d).add(o.n.multiply(d)), d.multiply(o.d));
        }

        Q minus(Q o) {
            return new Q(n.multiply(o.d).subtract(o.n.multiply(d)), d.multiply(o.d));
        }

        Q times(Q o) {
            return new Q(n.multiply(o.n), d.multiply(o.d));
        }

        Q over(Q o) {
            return new Q(n.multiply(o.d), d.multiply(o.n));
        }

        Q abs() {
            return new Q(n.abs(), d);
        }

        long whole() {
            return n.divide(d).longValueExact();
        }

        long up() {
            return n.longValueExact();
        }

        long low() {
            return d.longValueExact();
        }

        @Override
        public int compareTo(Q o) {
            return n.multiply(o.d).compareTo(o.n.multiply(d));
        }

        @Override
        public boolean equals(Object o) {
            return o instanceof Q && ((Q) o).n.equals(n) && ((Q) o).d.equals(d);
        }

        @Override
        public int hashCode() {
            return n.hashCode() * 31 + d.hashCode();
        }

        @Override
        public String toString() {
            return n + "/" + d;
        }
    }

    // ------------------------------------------------------------------ sums

    static final class CantBe extends Exception {
        private static final long serialVersionUID = 1L;
        final int why;

        CantBe(int why) {
            super(null, null, false, false);
            this.why = why;
        }
    }

    /** A tree of a sum: kind n (number), x, t (top) or a sign. */
    static final class Node {
        final char kind;
        final int number;
        final Node left;
        final Node right;

        Node(char kind, int number, Node left, Node right) {
            this.kind = kind;
            this.number = number;
            this.left = left;
            this.right = right;
        }

        Q reckon(Q x, int top) throws CantBe {
            switch (kind) {
                case 'n':
                    return Q.of(number, 1);
                case 'x':
                    return x;
                case 't':
                    return Q.of(top, 1);
                default:
            }
            Q a = left.reckon(x, top);
            Q b = right.reckon(x, top);
            Q c;
            if (kind == '+') {
                c = a.plus(b);
            } else if (kind == '-') {
                c = a.minus(b);
            } else if (kind == '*') {
                c = a.times(b);
            } else {
                if (b.n.signum() == 0) {
                    throw new CantBe(2);
                }
                c = a.over(b);
            }
            BigInteger limit = BigInteger.valueOf(1000000000);
            if (c.n.abs().compareTo(limit) > 0 || c.d.compareTo(limit) > 0) {
                throw new CantBe(3);
            }
            return c;
        }

        /** -1: something has no inverse. */
        int by(int m, int x, int top) {
            switch (kind) {
                case 'n':
                    return number % m;
                case 'x':
                    return x;
                case 't':
                    return top % m;
                default:
            }
            int a = left.by(m, x, top);
            int b = right.by(m, x, top);
            if (a < 0 || b < 0) {
                return -1;
            }
            if (kind == '+') {
                return (a + b) % m;
            }
            if (kind == '-') {
                return Math.floorMod(a - b, m);
            }
            if (kind == '*') {
                return a * b % m;
            }
            BigInteger bm = BigInteger.valueOf(m);
            BigInteger bb = BigInteger.valueOf(b);
            if (!bb.gcd(bm).equals(BigInteger.ONE)) {
                return -1;
            }
            return a * bb.modInverse(bm).intValue() % m;
        }
    }

    // ------------------------------------------------------------------ the text

    static final class Fault extends Exception {
        private static final long serialVersionUID = 1L;
        final int kind;
        final int place;

        Fault(int kind, int place) {
            super(null, null, false, false);
            this.kind = kind;
            this.place = place;
        }
    }

    static final class State {
        int top = 4;
        int stick;
        int lines;
        int pressed;
        Q at = Q.of(0, 1);
        List<Node> buttons = new ArrayList<>();
        List<Q> floors = new ArrayList<>();
        List<int[]> stuffs = new ArrayList<>();
        List<Q> tenants = new ArrayList<>();

        State twin() {
            State s = new State();
            s.top = top;
            s.stick = stick;
            s.lines = lines;
            s.pressed = pressed;
            s.at = at;
            s.buttons = new ArrayList<>(buttons);
            s.floors = new ArrayList<>(floors);
            s.stuffs = new ArrayList<>(stuffs);
            s.tenants = new ArrayList<>(tenants);
            return s;
        }
    }

    /** Recursive descent over the text itself. */
    static final class Parser {
        final String text;
        int pos;
        final State s = new State();
        boolean topIsLate;
        int open;

        Parser(String text) {
            this.text = text;
        }

        void blanks() {
            while (pos < text.length() && (text.charAt(pos) == ' ' || text.charAt(pos) == '\n')) {
                pos++;
            }
        }

        /** The token at pos, which stays: "" at the end. */
        String peek() throws Fault {
            blanks();
            if (pos == text.length()) {
                return "";
            }
            int end = pos;
            while (end < text.length() && text.charAt(end) >= '0' && text.charAt(end) <= '9') {
                end++;
            }
            if (end - pos > 3) {
                throw new Fault(1, pos);
            }
            if (end == pos) {
                while (end < text.length() && text.charAt(end) >= 'a' && text.charAt(end) <= 'z') {
                    end++;
                }
            }
            if (end == pos) {
                if (";:+-*/()".indexOf(text.charAt(pos)) < 0) {
                    throw new Fault(1, pos);
                }
                end++;
            }
            return text.substring(pos, end);
        }

        boolean isNumber(String token) {
            return !token.isEmpty() && Character.isDigit(token.charAt(0));
        }

        void take() throws Fault {
            pos += peek().length();
        }

        void want(String token) throws Fault {
            if (!peek().equals(token)) {
                throw new Fault(2, pos);
            }
            take();
        }

        int number(int least, int most) throws Fault {
            String token = peek();
            if (!isNumber(token)) {
                throw new Fault(2, pos);
            }
            int n = Integer.parseInt(token);
            if (n < least || n > most) {
                throw new Fault(3, pos);
            }
            take();
            return n;
        }

        Q fraction(String behind, boolean isFloor) throws Fault {
            int n = number(0, 999);
            int d = 1;
            if (peek().equals("/")) {
                take();
                d = number(1, 99);
            }
            if (!peek().equals(behind)) {
                throw new Fault(2, pos);
            }
            Q q = Q.of(n, d);
            if (q.compareTo(Q.of(s.top, 1)) > 0 || isFloor && s.floors.contains(q)) {
                throw new Fault(3, pos);
            }
            return q;
        }

        State all() throws Fault {
            while (!peek().isEmpty()) {
                line();
                want(";");
                s.lines++;
            }
            return s;
        }

        void line() throws Fault {
            String word = peek();
            int begin = pos;
            switch (word) {
                case "top":
                    if (topIsLate) {
                        throw new Fault(2, begin);
                    }
                    take();
                    s.top = number(1, 9);
                    break;
                case "button":
                    if (s.buttons.size() == 6) {
                        throw new Fault(4, begin);
                    }
                    take();
                    want(":");
                    s.buttons.add(sum());
                    break;
                case "floor":
                    if (s.floors.size() == 8) {
                        throw new Fault(4, begin);
                    }
                    take();
                    Q q = fraction("has", true);
                    take();
                    int[] has = {number(0, 99), number(0, 99), number(0, 99)};
                    s.floors.add(q);
                    s.stuffs.add(has);
                    topIsLate = true;
                    break;
                case "tenant":
                    if (s.tenants.size() == 6) {
                        throw new Fault(4, begin);
                    }
                    take();
                    s.tenants.add(fraction(";", false));
                    topIsLate = true;
                    break;
                case "at":
                    take();
                    s.at = fraction(";", false);
                    topIsLate = true;
                    break;
                case "stick":
                    take();
                    s.stick = number(0, 9);
                    break;
                default:
                    throw new Fault(2, begin);
            }
        }

        Node sum() throws Fault {
            Node left = term();
            while (peek().equals("+") || peek().equals("-")) {
                char sign = peek().charAt(0);
                take();
                left = new Node(sign, 0, left, term());
            }
            return left;
        }

        Node term() throws Fault {
            Node left = atom();
            while (peek().equals("*") || peek().equals("/")) {
                char sign = peek().charAt(0);
                take();
                left = new Node(sign, 0, left, atom());
            }
            return left;
        }

        Node atom() throws Fault {
            String token = peek();
            if (isNumber(token)) {
                take();
                return new Node('n', Integer.parseInt(token), null, null);
            }
            if (token.equals("x") || token.equals("top")) {
                take();
                return new Node(token.charAt(0), 0, null, null);
            }
            if (!token.equals("(")) {
                throw new Fault(2, pos);
            }
            if (open == 6) {
                throw new Fault(4, pos);
            }
            open++;
            take();
            Node inside = sum();
            want(")");
            open--;
            return inside;
        }
    }

    // ------------------------------------------------------------------ the model

    static final class Model {
        State s = new State();
        final StringBuilder tape = new StringBuilder();
        int faultKind;
        int faultPlace = NONE;
        final List<Q> past = new ArrayList<>();
        final long[][] trays = new long[4][];
        final int[] sorts = new int[4];
        final State[] images = new State[2];

        boolean isFloor(Q q) {
            BigInteger million = BigInteger.valueOf(1000000);
            return q.n.signum() >= 0 && q.compareTo(Q.of(s.top, 1)) <= 0 && q.n.compareTo(million) <= 0
                    && q.d.compareTo(million) <= 0;
        }

        Q asked(int up, int low) {
            if (low < 1) {
                return null;
            }
            Q q = Q.of(up, low);
            return isFloor(q) ? q : null;
        }

        Q lead(long button, Q from) throws CantBe {
            if (button < 0 || button >= s.buttons.size()) {
                throw new CantBe(1);
            }
            Q q = s.buttons.get((int) button).reckon(from, s.top);
            if (!isFloor(q)) {
                throw new CantBe(4);
            }
            return q;
        }

        Q leadOrNull(long button, Q from) {
            try {
                return lead(button, from);
            } catch (CantBe e) {
                return null;
            }
        }

        static long half(Q q, int what) {
            return what == 0 ? q.up() : q.low();
        }

        int feed(int[] v) {
            if (tape.length() + 20 > 900) {
                return -5;
            }
            for (int x : v) {
                for (int shift = 24; shift >= 0; shift -= 8) {
                    tape.append((char) (x >>> shift & 255));
                }
            }
            return tape.length();
        }

        int house(int n) {
            if (n < 0 || n > tape.length()) {
                return -3;
            }
            String text = tape.substring(0, n);
            tape.setLength(0);
            try {
                s = new Parser(text).all();
            } catch (Fault f) {
                faultKind = f.kind;
                faultPlace = f.place;
                return -30 - f.kind;
            }
            faultKind = 0;
            faultPlace = NONE;
            past.clear();
            return s.lines;
        }

        int fault(int what) {
            return what == 0 ? faultKind : what == 1 ? faultPlace : NONE;
        }

        int at(int what) {
            return what < 0 || what > 1 ? -2 : (int) half(s.at, what);
        }

        int floor(int k, int what) {
            if (k < 0 || k >= s.floors.size() || what < 0 || what > 5) {
                return -2;
            }
            if (what < 2) {
                return (int) half(s.floors.get(k), what);
            }
            if (what < 5) {
                return s.stuffs.get(k)[what - 2];
            }
            return new TreeSet<>(s.floors).headSet(s.floors.get(k)).size();
        }

        int tenant(int t, int what) {
            return t < 0 || t >= s.tenants.size() || what < 0 || what > 1 ? -2 : (int) half(s.tenants.get(t), what);
        }

        int why(int button) {
            try {
                lead(button, s.at);
                return 0;
            } catch (CantBe e) {
                return e.why;
            }
        }

        int leads(int button, int up, int low, int what) {
            if (what < 0 || what > 1) {
                return -2;
            }
            Q q = asked(up, low);
            if (q == null) {
                return -3;
            }
            try {
                return (int) half(lead(button, q), what);
            } catch (CantBe e) {
                return -10 - e.why;
            }
        }

        int doPress(long button) {
            try {
                Q q = lead(button, s.at);
                past.add(s.at);
                if (past.size() > 12) {
                    past.remove(0);
                }
                s.at = q;
                s.pressed++;
                return 0;
            } catch (CantBe e) {
                return e.why;
            }
        }

        int press(int button) {
            int why = doPress(button);
            return why == 0 ? past.size() : -10 - why;
        }

        int undo(int n) {
            if (n < 1 || n > 12 || n > past.size()) {
                return -3;
            }
            for (int i = 0; i < n; i++) {
                s.at = past.remove(past.size() - 1);
            }
            return past.size();
        }

        boolean noTray(int tray) {
            return tray < 0 || tray > 3;
        }

        int judge(int tray, int what) {
            if (noTray(tray) || what < 0 || what > 3) {
                return -2;
            }
            if (trays[tray] == null) {
                return -6;
            }
            if (trays[tray].length < 1 || trays[tray].length > 8) {
                return -4;
            }
            Q q = s.at;
            int place = NONE;
            int why = 0;
            for (int i = 0; i < trays[tray].length && why == 0; i++) {
                try {
                    q = lead(trays[tray][i], q);
                } catch (CantBe e) {
                    place = i;
                    why = e.why;
                }
            }
            return what == 0 ? place : what == 1 ? why : (int) half(q, what - 2);
        }

        int perform(int tray) {
            if (noTray(tray)) {
                return -2;
            }
            if (trays[tray] == null) {
                return -6;
            }
            if (trays[tray].length < 1 || trays[tray].length > 8) {
                return -4;
            }
            int n = 0;
            for (long b : trays[tray]) {
                if (doPress(b) != 0) {
                    break;
                }
                n++;
            }
            return n;
        }

        int day(int seed, int times) {
            if (times < 1 || times > 60) {
                return -3;
            }
            if (s.buttons.isEmpty()) {
                return -5;
            }
            int n = 0;
            int x = seed;
            for (int i = 0; i < times; i++) {
                x = x * 1103515245 + 12345;
                int b = (x >>> 16) % s.buttons.size();
                x = x * 1103515245 + 12345;
                if ((x >>> 16) % 10 >= s.stick && doPress(b) == 0) {
                    n++;
                }
            }
            return n;
        }

        Q amount(int stuff, Q at) {
            int below = NONE;
            int above = NONE;
            for (int k = 0; k < s.floors.size(); k++) {
                Q f = s.floors.get(k);
                if (f.compareTo(at) <= 0 && (below < 0 || f.compareTo(s.floors.get(below)) > 0)) {
                    below = k;
                }
                if (f.compareTo(at) >= 0 && (above < 0 || f.compareTo(s.floors.get(above)) < 0)) {
                    above = k;
                }
            }
            if (below < 0 && above < 0) {
                return Q.of(0, 1);
            }
            if (below < 0 || above < 0 || below == above) {
                return Q.of(s.stuffs.get(Math.max(below, above))[stuff], 1);
            }
            Q fromBelow = at.minus(s.floors.get(below));
            Q fromAbove = s.floors.get(above).minus(at);
            Q b = Q.of(s.stuffs.get(below)[stuff], 1);
            Q a = Q.of(s.stuffs.get(above)[stuff], 1);
            return b.times(fromAbove).plus(a.times(fromBelow)).over(fromBelow.plus(fromAbove));
        }

        long has(int stuff, int up, int low, int what) {
            if (stuff < 0 || stuff > 2 || what < 0 || what > 1) {
                return -2;
            }
            Q q = asked(up, low);
            return q == null ? -3 : half(amount(stuff, q), what);
        }

        /** Least place where a[] - b[] is 0, tried at all places where it may be. */
        long leastZero(int stuff, int other, int n, int what) {
            TreeSet<Q> tries = new TreeSet<>();
            tries.add(Q.of(0, 1));
            TreeSet<Q> told = new TreeSet<>(s.floors);
            tries.addAll(told);
            Q before = null;
            for (Q f : told) {
                if (before != null) {
                    Q ga = over(stuff, other, n, before);
                    Q gb = over(stuff, other, n, f);
                    Q d = ga.minus(gb);
                    if (d.n.signum() != 0) {
                        Q part = ga.over(d);
                        if (part.n.signum() >= 0 && part.compareTo(Q.of(1, 1)) <= 0) {
                            tries.add(before.plus(f.minus(before).times(part)));
                        }
                    }
                }
                before = f;
            }
            for (Q f : tries) {
                if (over(stuff, other, n, f).n.signum() == 0) {
                    return half(f, what);
                }
            }
            return NONE;
        }

        Q over(int stuff, int other, int n, Q at) {
            return amount(stuff, at).minus(other < 0 ? Q.of(n, 1) : amount(other, at));
        }

        long where(int stuff, int n, int what) {
            if (stuff < 0 || stuff > 2 || what < 0 || what > 1) {
                return -2;
            }
            if (n < 0 || n > 99) {
                return -3;
            }
            return leastZero(stuff, NONE, n, what);
        }

        long alike(int stuff, int other, int what) {
            if (stuff < 0 || stuff > 2 || other < 0 || other > 2 || stuff == other || what < 0 || what > 1) {
                return -2;
            }
            return leastZero(stuff, other, 0, what);
        }

        int most(int stuff) {
            if (stuff < 0 || stuff > 2) {
                return -2;
            }
            int best = NONE;
            for (int k = 0; k < s.floors.size(); k++) {
                if (best == NONE) {
                    best = k;
                    continue;
                }
                int more = s.stuffs.get(k)[stuff] - s.stuffs.get(best)[stuff];
                if (more > 0 || more == 0 && s.floors.get(k).compareTo(s.floors.get(best)) < 0) {
                    best = k;
                }
            }
            return best;
        }

        int tells(int up, int low) {
            Q q = asked(up, low);
            if (q == null || q.low() > 99) {
                return -3;
            }
            if (s.floors.size() == 8) {
                return -4;
            }
            if (s.floors.contains(q)) {
                return -5;
            }
            int[] has = new int[3];
            for (int i = 0; i < 3; i++) {
                has[i] = (int) amount(i, q).whole();
            }
            s.floors.add(q);
            s.stuffs.add(has);
            return s.floors.size() - 1;
        }

        /** Level by level, rows kept as lists and compared as such. */
        int fewest(int up, int low, int what) {
            if (what != 0 && (what < 10 || what > 17)) {
                return -2;
            }
            Q goal = asked(up, low);
            if (goal == null) {
                return -3;
            }
            Map<Q, String> rows = new HashMap<>();
            rows.put(s.at, "");
            Map<Q, String> level = rows;
            level = new HashMap<>(rows);
            for (int n = 0;; n++) {
                if (level.containsKey(goal)) {
                    String row = level.get(goal);
                    return what == 0 ? n : what - 10 < n ? row.charAt(what - 10) - '0' : NONE;
                }
                if (rows.size() > 2000) {
                    return SPENT;
                }
                if (level.isEmpty() || n == 8) {
                    return NONE;
                }
                Map<Q, String> next = new HashMap<>();
                for (Map.Entry<Q, String> e : level.entrySet()) {
                    for (int b = 0; b < s.buttons.size(); b++) {
                        Q q = leadOrNull(b, e.getKey());
                        if (q != null && !rows.containsKey(q)) {
                            String row = e.getValue() + b;
                            next.merge(q, row, (x, y) -> x.compareTo(y) <= 0 ? x : y);
                        }
                    }
                }
                rows.putAll(next);
                level = next;
            }
        }

        /** Every row of n buttons that can be, by numbers, with its end. */
        void eachRow(Q from, int n, String row, List<String> rows, List<Q> ends) {
            if (n == 0) {
                rows.add(row);
                ends.add(from);
                return;
            }
            for (int b = 0; b < s.buttons.size(); b++) {
                Q q = leadOrNull(b, from);
                if (q != null) {
                    eachRow(q, n - 1, row + b, rows, ends);
                }
            }
        }

        Set<Q> endsOf(Q from, int n) {
            List<Q> ends = new ArrayList<>();
            eachRow(from, n, "", new ArrayList<>(), ends);
            return new TreeSet<>(ends);
        }

        int reach(int n) {
            return n < 0 || n > 5 ? -3 : endsOf(s.at, n).size();
        }

        int highest(int n, int what) {
            if (what < 0 || what > 1) {
                return -2;
            }
            if (n < 0 || n > 5) {
                return -3;
            }
            TreeSet<Q> ends = (TreeSet<Q>) endsOf(s.at, n);
            return ends.isEmpty() ? NONE : (int) half(ends.last(), what);
        }

        int twins(int what) {
            if (what != 0 && (what < 10 || what > 14) && (what < 20 || what > 24)) {
                return -2;
            }
            for (int n = 1; n <= 5; n++) {
                List<String> rows = new ArrayList<>();
                List<Q> ends = new ArrayList<>();
                eachRow(s.at, n, "", rows, ends);
                Map<Q, Integer> seen = new HashMap<>();
                for (int j = 0; j < rows.size(); j++) {
                    Integer i = seen.putIfAbsent(ends.get(j), j);
                    if (i != null) {
                        if (what == 0) {
                            return n;
                        }
                        int k = what % 10;
                        return k >= n ? NONE : rows.get(what < 20 ? i : j).charAt(k) - '0';
                    }
                }
            }
            return NONE;
        }

        int rest(Q q, int m) {
            BigInteger bm = BigInteger.valueOf(m);
            if (!q.d.gcd(bm).equals(BigInteger.ONE)) {
                return -1;
            }
            return q.n.multiply(q.d.modInverse(bm)).mod(bm).intValue();
        }

        int rests(int m) {
            if (m < 2 || m > 30) {
                return -3;
            }
            int all = (int) ((1L << m) - 1);
            int r = rest(s.at, m);
            if (r < 0) {
                return all;
            }
            int met = 1 << r;
            for (int again = 0; again <= m; again++) {
                for (int x = 0; x < m; x++) {
                    if ((met >> x & 1) == 1) {
                        for (Node b : s.buttons) {
                            int y = b.by(m, x, s.top);
                            met |= y < 0 ? all : 1 << y;
                        }
                    }
                }
            }
            return met;
        }

        int never(int m, int up, int low) {
            Q q = asked(up, low);
            if (m < 2 || m > 30 || q == null) {
                return -3;
            }
            int r = rest(q, m);
            return r >= 0 && (rests(m) >> r & 1) == 0 ? 1 : 0;
        }

        int shown(int up, int low) {
            if (asked(up, low) == null) {
                return -3;
            }
            for (int m = 2; m <= 30; m++) {
                if (never(m, up, low) == 1) {
                    return m;
                }
            }
            return NONE;
        }

        Set<Q> afterTurn(Set<Q> from, boolean waits) {
            Set<Q> to = new HashSet<>();
            if (waits) {
                to.addAll(from);
            }
            for (Q f : from) {
                for (int b = 0; b < s.buttons.size(); b++) {
                    Q q = leadOrNull(b, f);
                    if (q != null) {
                        to.add(q);
                    }
                }
            }
            return to;
        }

        int meet(int t, int u, boolean waits, int what) {
            int n = s.tenants.size();
            if (t < 0 || t >= n || u < 0 || u >= n || t == u || what < 0 || what > 2) {
                return -2;
            }
            Set<Q> a = Set.of(s.tenants.get(t));
            Set<Q> b = Set.of(s.tenants.get(u));
            for (int turns = 0; turns <= 4; turns++) {
                TreeSet<Q> both = new TreeSet<>(a);
                both.retainAll(b);
                if (!both.isEmpty()) {
                    return what == 0 ? turns : (int) half(both.first(), what - 1);
                }
                a = afterTurn(a, false);
                b = afterTurn(b, waits);
            }
            return NONE;
        }

        static List<Long> continued(Q q) {
            List<Long> terms = new ArrayList<>();
            while (true) {
                long whole = q.whole();
                terms.add(whole);
                q = q.minus(Q.of(whole, 1));
                if (q.n.signum() == 0) {
                    return terms;
                }
                q = Q.of(1, 1).over(q);
            }
        }

        int address(int up, int low, int k) {
            Q q = asked(up, low);
            if (q == null) {
                return -3;
            }
            List<Long> terms = continued(q);
            return k == NONE ? terms.size() : k >= 0 && k < terms.size() ? (int) (long) terms.get(k) : NONE;
        }

        int neighbour(int up, int low, int d, boolean above, int what) {
            if (what < 0 || what > 1) {
                return -2;
            }
            Q q = asked(up, low);
            if (d < 1 || d > 1000 || q == null) {
                return -3;
            }
            long n = q.up();
            long l = q.low();
            long bn = -1;
            long bd = 1;
            for (long e = 1; e <= d; e++) {
                for (long p = 0; p <= s.top * e; p++) {
                    boolean beyond = above ? p * l > n * e : p * l < n * e;
                    if (beyond && (bn < 0 || (above ? p * bd < bn * e : p * bd > bn * e))) {
                        bn = p;
                        bd = e;
                    }
                }
            }
            return bn < 0 ? NONE : (int) half(Q.of(bn, bd), what);
        }

        int simplest(int up, int low, int otherUp, int otherLow, int what) {
            if (what < 0 || what > 1) {
                return -2;
            }
            Q a = asked(up, low);
            Q b = asked(otherUp, otherLow);
            if (a == null || b == null || a.equals(b)) {
                return -3;
            }
            Q lo = a.compareTo(b) < 0 ? a : b;
            Q hi = a.compareTo(b) < 0 ? b : a;
            long n = lo.up();
            long l = lo.low();
            for (long q = 1;; q++) {
                long p = n * q / l + 1;
                if (p * hi.low() < hi.up() * q) {
                    return (int) (what == 0 ? p : q);
                }
            }
        }

        int countBelow(Q limit, int d, boolean with) {
            int sum = 0;
            long n = limit.up();
            long l = limit.low();
            for (long q = 1; q <= d; q++) {
                for (long p = 0; p <= s.top * q; p++) {
                    if (gcd(p, q) == 1 && (p * l < n * q || with && p * l == n * q)) {
                        sum++;
                    }
                }
            }
            return sum;
        }

        static long gcd(long a, long b) {
            return b == 0 ? a : gcd(b, a % b);
        }

        int floors(int d) {
            return d < 1 || d > 200 ? -3 : countBelow(Q.of(s.top, 1), d, true);
        }

        int rank(int up, int low, int d) {
            Q q = asked(up, low);
            return d < 1 || d > 200 || q == null ? -3 : countBelow(q, d, false);
        }

        int parts(int up, int low, int k) {
            Q q = asked(up, low);
            if (q == null) {
                return -3;
            }
            BigInteger limit = BigInteger.valueOf(1000000000);
            q = q.minus(Q.of(q.whole(), 1));
            List<Integer> ns = new ArrayList<>();
            while (q.n.signum() > 0) {
                BigInteger[] dr = q.d.divideAndRemainder(q.n);
                BigInteger n = dr[1].signum() == 0 ? dr[0] : dr[0].add(BigInteger.ONE);
                if (n.compareTo(limit) > 0) {
                    return -4;
                }
                ns.add(n.intValueExact());
                q = q.minus(new Q(BigInteger.ONE, n));
                if (q.d.compareTo(limit) > 0) {
                    return -4;
                }
            }
            return k == NONE ? ns.size() : k >= 0 && k < ns.size() ? ns.get(k) : NONE;
        }

        long rent(int t, int what) {
            return t < 0 || t >= s.tenants.size() || what < 0 || what > 1 ? -2
                    : half(amount(0, s.tenants.get(t)), what);
        }

        int rents() {
            int sum = 0;
            for (Q t : s.tenants) {
                sum += (int) amount(0, t).times(Q.of(100, 1)).whole();
            }
            return sum;
        }

        int moves(int t, int up, int low) {
            if (t < 0 || t >= s.tenants.size()) {
                return -2;
            }
            Q q = asked(up, low);
            if (q == null || q.low() > 99) {
                return -3;
            }
            Q old = amount(0, s.tenants.get(t));
            s.tenants.set(t, q);
            return Integer.signum(amount(0, q).compareTo(old));
        }

        long fairest(int t, int what) {
            if (t < 0 || t >= s.tenants.size() || what < 0 || what > 3) {
                return -2;
            }
            if (s.tenants.size() == 1) {
                return NONE;
            }
            TreeSet<Q> all = new TreeSet<>();
            for (int q = 1; q <= 12; q++) {
                for (int p = 0; p <= q * s.top; p++) {
                    all.add(Q.of(p, q));
                }
            }
            Q best = null;
            Q bestFar = null;
            for (Q f : all) {
                Q far = Q.of(0, 1);
                for (int u = 0; u < s.tenants.size(); u++) {
                    if (u != t) {
                        far = far.plus(f.minus(s.tenants.get(u)).abs());
                    }
                }
                if (best == null || far.compareTo(bestFar) < 0) {
                    best = f;
                    bestFar = far;
                }
            }
            return what < 2 ? half(best, what) : half(bestFar, what - 2);
        }

        int richest() {
            int best = NONE;
            for (int t = 0; t < s.tenants.size(); t++) {
                if (best == NONE || amount(0, s.tenants.get(t)).compareTo(amount(0, s.tenants.get(best))) > 0) {
                    best = t;
                }
            }
            return best;
        }

        int seenRefused(int tray) {
            if (noTray(tray)) {
                return -2;
            }
            if (trays[tray] == null) {
                return -6;
            }
            if (trays[tray].length < 2 || trays[tray].length > 8) {
                return -4;
            }
            for (long v : trays[tray]) {
                if (v != NONE && (v < 0 || v >= s.floors.size())) {
                    return -3;
                }
            }
            return 0;
        }

        List<String> fitting(long[] seen) {
            List<String> rows = new ArrayList<>();
            fitting(seen, s.at, "", rows);
            return rows;
        }

        void fitting(long[] seen, Q from, String row, List<String> rows) {
            int place = row.length();
            if (place == seen.length) {
                rows.add(row);
                return;
            }
            for (int b = 0; b < s.buttons.size(); b++) {
                Q q = leadOrNull(b, from);
                if (q != null && (seen[place] == NONE || s.floors.get((int) seen[place]).equals(q))) {
                    fitting(seen, q, row + b, rows);
                }
            }
        }

        int fits(int tray, int k) {
            int refused = seenRefused(tray);
            if (refused != 0) {
                return refused;
            }
            if (Math.pow(s.buttons.size(), trays[tray].length) > 200000.5) {
                return SPENT;
            }
            List<String> rows = fitting(trays[tray]);
            return k == NONE ? rows.size() : k >= 0 && k < rows.size() ? Integer.parseInt(rows.get(k), 6) : NONE;
        }

        int sure(int tray, int place) {
            int refused = seenRefused(tray);
            if (refused != 0) {
                return refused;
            }
            if (place < 0 || place >= trays[tray].length) {
                return -3;
            }
            if (Math.pow(s.buttons.size(), trays[tray].length) > 200000.5) {
                return SPENT;
            }
            Set<Character> there = new HashSet<>();
            for (String row : fitting(trays[tray])) {
                there.add(row.charAt(place));
            }
            return there.size() == 1 ? there.iterator().next() - '0' : NONE;
        }

        int rowRefused(int tray, Q floor) {
            if (noTray(tray)) {
                return -2;
            }
            if (trays[tray] == null) {
                return -6;
            }
            if (trays[tray].length < 1 || trays[tray].length > 8) {
                return -4;
            }
            if (floor == null) {
                return -3;
            }
            for (long v : trays[tray]) {
                if (v < 0 || v >= s.buttons.size()) {
                    return -3;
                }
            }
            return 0;
        }

        /** All outcomes one by one: bit i tells whether button i sticks. */
        Map<Q, Long> outcomes(long[] row) {
            Map<Q, Long> sum = new HashMap<>();
            for (int bits = 0; bits < 1 << row.length; bits++) {
                long weight = 1;
                Q q = s.at;
                for (int i = 0; i < row.length; i++) {
                    boolean sticks = (bits >> i & 1) == 1;
                    weight *= sticks ? s.stick : 10 - s.stick;
                    Q to = leadOrNull(row[i], q);
                    if (!sticks && to != null) {
                        q = to;
                    }
                }
                if (weight > 0) {
                    sum.merge(q, weight, Long::sum);
                }
            }
            return sum;
        }

        long odds(int tray, int up, int low) {
            Q q = asked(up, low);
            int refused = rowRefused(tray, q);
            return refused != 0 ? refused : outcomes(trays[tray]).getOrDefault(q, 0L);
        }

        int ends(int tray) {
            int refused = rowRefused(tray, s.at);
            return refused != 0 ? refused : outcomes(trays[tray]).size();
        }

        int numbers(int tray, int sort, int n) {
            if (noTray(tray) || sort < 0 || sort > 3) {
                return -2;
            }
            if (n < 0 || n > 40) {
                return -3;
            }
            trays[tray] = new long[n];
            sorts[tray] = sort;
            return 0;
        }

        long cut(int sort, long v) {
            int bits = 8 << sort;
            return v << (64 - bits) >> (64 - bits);
        }

        long write(int tray, int i, long v) {
            if (noTray(tray)) {
                return -2;
            }
            if (trays[tray] == null) {
                return -6;
            }
            if (i < 0 || i >= trays[tray].length) {
                return -7;
            }
            trays[tray][i] = cut(sorts[tray], v);
            return trays[tray][i];
        }

        int copy(int tray) {
            if (noTray(tray)) {
                return -2;
            }
            if (trays[tray] == null) {
                return -6;
            }
            List<Long> terms = continued(s.at);
            int n = 0;
            for (; n < terms.size() && n < trays[tray].length; n++) {
                trays[tray][n] = cut(sorts[tray], terms.get(n));
            }
            return n;
        }

        int image(int i) {
            if (i < 0 || i > 1) {
                return -2;
            }
            images[i] = s.twin();
            return 0;
        }

        int restore(int i) {
            if (i < 0 || i > 1) {
                return -2;
            }
            if (images[i] == null) {
                return -5;
            }
            s = images[i].twin();
            past.clear();
            return 0;
        }

        int count(int what) {
            int[] all = {s.top, s.buttons.size(), s.floors.size(), s.tenants.size(), s.stick, past.size(), s.pressed,
                tape.length(), s.lines};
            return what < 0 || what >= all.length ? NONE : all[what];
        }
    }

    // ------------------------------------------------------------------ drawn runs

    static int wrong;
    static final Map<String, Integer> CALLS = new HashMap<>();
    static final Map<String, Set<Long>> CODES = new HashMap<>();

    static final class Run {
        final Random r;
        final FractionLift x = new FractionLift();
        final Model m = new Model();
        final List<String> log = new ArrayList<>();
        final int number;
        boolean failed;

        Run(int number) {
            this.number = number;
            r = new Random(number);
        }

        void due(String call, long got, long want) {
            log.add(call + " -> " + got);
            String name = call.substring(0, call.indexOf('('));
            CALLS.merge(name, 1, Integer::sum);
            if (want < 0) {
                CODES.computeIfAbsent(name, k -> new TreeSet<>(Comparator.reverseOrder())).add(want);
            }
            if (got != want) {
                wrong++;
                failed = true;
                System.out.println("run " + number + ": " + call + " answered " + got + ", due is " + want);
            }
        }

        int some(int... of) {
            return of[r.nextInt(of.length)];
        }

        /** Mostly least to most, now and then beyond. */
        int within(int least, int most) {
            if (r.nextInt(12) == 0) {
                return some(least - 1, most + 1, least - 2, Integer.MIN_VALUE, Integer.MAX_VALUE, most + 7);
            }
            return least + r.nextInt(most - least + 1);
        }

        Q drawnFloor() {
            State s = m.s;
            switch (r.nextInt(8)) {
                case 0:
                    return s.at;
                case 1:
                case 2:
                    Q q = s.at;
                    for (int i = r.nextInt(7); i > 0 && !s.buttons.isEmpty(); i--) {
                        Q to = m.leadOrNull(r.nextInt(s.buttons.size()), q);
                        q = to == null ? q : to;
                    }
                    return q;
                case 3:
                    return s.floors.isEmpty() ? Q.of(0, 1) : s.floors.get(r.nextInt(s.floors.size()));
                case 4:
                    return Q.of(r.nextInt(s.top + 1), 1);
                case 5:
                    int d = 1 + r.nextInt(1000000);
                    return Q.of(r.nextInt(Math.min(1000000, s.top * d) + 1), d);
                default:
                    int low = 1 + r.nextInt(some(4, 12, 99, 120));
                    return Q.of(r.nextInt(s.top * low + 1), low);
            }
        }

        int[] floorArgs() {
            if (r.nextInt(14) == 0) {
                int[][] odd = {{0, 0}, {1, 0}, {-1, 1}, {1, -1}, {-1, -1}, {10, 1}, {1, 1000001}, {2, 2000000},
                    {1000001, 1000000}, {1000000, 1000000}, {1000000, 999999}, {1000000, 250000}, {1000001, 250001},
                    {Integer.MAX_VALUE, Integer.MAX_VALUE}, {Integer.MIN_VALUE, 1}, {0, Integer.MAX_VALUE},
                    {Integer.MIN_VALUE, Integer.MIN_VALUE}, {2000000000, 1000000000}, {m.s.top + 1, 1},
                    {m.s.top * 7 + 1, 7}, {999999, 1000000}};
                return odd[r.nextInt(odd.length)];
            }
            Q q = drawnFloor();
            int times = r.nextInt(4) == 0 ? 1 + r.nextInt(9) : 1;
            return new int[] {(int) q.up() * times, (int) q.low() * times};
        }

        // ---- texts

        String gap() {
            return r.nextInt(5) == 0 ? some(0, 1) == 0 ? "  " : "\n" : r.nextInt(3) == 0 ? "" : " ";
        }

        String sum(int depth) {
            StringBuilder b = new StringBuilder(term(depth));
            for (int i = r.nextInt(3); i > 0; i--) {
                b.append(gap()).append(r.nextBoolean() ? "+" : "-").append(gap()).append(term(depth));
            }
            return b.toString();
        }

        String term(int depth) {
            StringBuilder b = new StringBuilder(atom(depth));
            for (int i = r.nextInt(3) - 1; i > 0; i--) {
                b.append(gap()).append(r.nextBoolean() ? "*" : "/").append(gap()).append(atom(depth));
            }
            return b.toString();
        }

        String atom(int depth) {
            int kind = r.nextInt(10);
            if (kind < 4) {
                return "x";
            }
            if (kind < 5) {
                return "top";
            }
            if (kind < 7 && depth > 0) {
                return "(" + gap() + sum(depth - 1) + gap() + ")";
            }
            return String.valueOf(r.nextInt(r.nextInt(12) == 0 ? 1000 : 5) + r.nextInt(2));
        }

        /** Buttons that lead somewhere more often than drawn sums do. */
        String usualSum() {
            String[] usual = {"x / 2", "(x + top) / 2", "x + 1", "x - 1", "top - x", "1 / x", "x * 2", "1 / (x + 1)",
                "x / (x + 1)", "x + 1 / 2", "(x + 1) / 3", "(x * 2 + 1) / 3", "x", "2", "x * x", "x + 2 / 3",
                "(2 * x + top) / 3", "x / 3", "top * x / 5", "x - 1 / 3", "1 / (1 + 1 / (1 + x))", "x * 3 / 2",
                "x * 999 / 998", "999 * 999 * 999 * x", "1 / (x - 1)", "(x + 1) / 4", "(x + 3) / 4",
                "x + 1 / 97", "x + 1 / 89", "x + 1 / 83", "(x + 1) / 5", "(x + 7) / 9", "x - x", "top"};
            return usual[r.nextInt(usual.length)];
        }

        String fraction(int top) {
            int low = some(1, 1, 2, 3, 4, 5, 12, 99, 97, 1 + r.nextInt(99));
            int up = r.nextInt(top * low + 1);
            if (r.nextInt(40) == 0) {
                up = Math.min(999, top * low + 1 + r.nextInt(3));
            }
            if (low == 1 && r.nextBoolean()) {
                return String.valueOf(up);
            }
            return up + gap() + "/" + gap() + low;
        }

        String text() {
            StringBuilder b = new StringBuilder();
            int top = 4;
            if (r.nextInt(3) > 0) {
                top = 1 + r.nextInt(9);
                b.append("top ").append(top).append(";");
            }
            List<String> lines = new ArrayList<>();
            int buttons = some(0, 1, 2, 2, 3, 3, 4, 4, 5, 5, 6, 6, 6, 7);
            for (int i = 0; i < buttons; i++) {
                lines.add("button" + gap() + ":" + gap() + (r.nextInt(3) == 0 ? sum(r.nextInt(4)) : usualSum()));
            }
            for (int i = r.nextInt(r.nextInt(5) == 0 ? 10 : 9); i > 0; i--) {
                lines.add("floor " + fraction(top) + " has " + n99() + " " + n99() + " " + n99());
            }
            for (int i = r.nextInt(r.nextInt(5) == 0 ? 8 : 7); i > 0; i--) {
                lines.add("tenant " + fraction(top));
            }
            for (int i = r.nextInt(3); i > 0; i--) {
                lines.add("at " + fraction(top));
            }
            for (int i = r.nextInt(2); i > 0; i--) {
                lines.add("stick " + r.nextInt(10));
            }
            if (r.nextBoolean()) {
                java.util.Collections.shuffle(lines, r);
            }
            for (String line : lines) {
                b.append(gap()).append(line).append(gap()).append(";");
            }
            String text = b.append(gap()).toString();
            return r.nextInt(3) == 0 ? spoilt(text) : text;
        }

        int n99() {
            return r.nextInt(4) == 0 ? r.nextInt(3) : r.nextInt(100);
        }

        String spoilt(String text) {
            StringBuilder b = new StringBuilder(text);
            String[] bits = {";", ":", "+", "-", "*", "/", "(", ")", "((((((x))))))", "(((((((x)))))))", "top", "top 3;",
                "x", "has", "7", "0", "10", "100", "1000", "99", "at 1;", "stick 10;", "tenant 1;", "floor", "button",
                "button:x;", ",", "\t", "\u00e9", "\0", "X", "lift", "floor 1 has 1 2 3;", " ", "at 9/2;", "at 4 has"};
            for (int i = 1 + r.nextInt(2); i > 0; i--) {
                int p = r.nextInt(b.length() + 1);
                if (r.nextInt(3) == 0 && p < b.length()) {
                    b.delete(p, Math.min(b.length(), p + 1 + r.nextInt(4)));
                } else {
                    b.insert(p, bits[r.nextInt(bits.length)]);
                }
            }
            return b.toString();
        }

        void tellHouse() {
            String text = text();
            while (text.length() > 900) {
                text = text();
            }
            log.add("text: " + text);
            byte[] bytes = new byte[(text.length() + 19) / 20 * 20];
            Arrays.fill(bytes, (byte) some(32, 59, 65));
            for (int i = 0; i < text.length(); i++) {
                bytes[i] = (byte) text.charAt(i);
            }
            if (m.tape.length() > 0) {
                due("house(0)", x.house(0), m.house(0));
            }
            for (int i = 0; i < bytes.length; i += 20) {
                int[] v = new int[5];
                for (int j = 0; j < 20; j++) {
                    v[j / 4] = v[j / 4] << 8 | bytes[i + j] & 255;
                }
                due("feed(" + Arrays.toString(v) + ")", x.feed(v[0], v[1], v[2], v[3], v[4]), m.feed(v));
            }
            int n = text.length();
            if (r.nextInt(10) == 0) {
                n = r.nextInt(n + 1);
            }
            for (int i = r.nextInt(40) == 0 ? 46 : 0; i > 0; i--) {
                due("feed(5)", x.feed(i, i << 8, i << 16, i << 24, -i), m.feed(new int[] {i, i << 8, i << 16, i << 24, -i}));
            }
            if (r.nextInt(10) == 0) {
                due("house(-1)", x.house(-1), m.house(-1));
                int beyond = m.tape.length() + 1;
                due("house(" + beyond + ")", x.house(beyond), m.house(beyond));
            }
            due("house(" + n + ")", x.house(n), m.house(n));
            look();
        }

        /** All that can be looked at. */
        void look() {
            for (int i = -1; i <= 9; i++) {
                due("count(" + i + ")", x.count(i), m.count(i));
            }
            for (int i = -1; i <= 2; i++) {
                due("at(" + i + ")", x.at(i), m.at(i));
                due("fault(" + i + ")", x.fault(i), m.fault(i));
            }
            for (int k = -1; k <= m.s.floors.size(); k++) {
                for (int w = -1; w <= 6; w++) {
                    due("floor(" + k + ", " + w + ")", x.floor(k, w), m.floor(k, w));
                }
            }
            for (int t = -1; t <= m.s.tenants.size(); t++) {
                for (int w = -1; w <= 2; w++) {
                    due("tenant(" + t + ", " + w + ")", x.tenant(t, w), m.tenant(t, w));
                }
            }
        }

        void fillTray() {
            int tray = within(0, 3);
            int sort = within(0, 3);
            int n = within(0, r.nextInt(4) == 0 ? 40 : 8);
            due("numbers(" + tray + ", " + sort + ", " + n + ")", x.numbers(tray, sort, n), m.numbers(tray, sort, n));
            if (tray < 0 || tray > 3 || m.trays[tray] == null) {
                return;
            }
            boolean seen = r.nextBoolean();
            Q q = m.s.at;
            for (int i = 0; i < m.trays[tray].length; i++) {
                long v = r.nextInt(Math.max(1, m.s.buttons.size()));
                if (seen) {
                    v = NONE;
                    Q to = m.leadOrNull(r.nextInt(Math.max(1, m.s.buttons.size())), q);
                    q = to == null ? q : to;
                    if (r.nextInt(3) > 0) {
                        v = m.s.floors.indexOf(q);
                    }
                }
                if (r.nextInt(30) == 0) {
                    v = some(-1, -2, 6, 7, 8, 255, 256, 65535, 65536, Integer.MIN_VALUE);
                    v = r.nextInt(3) == 0 ? v << 32 : v;
                }
                due("write(" + tray + ", " + i + ", " + v + ")", x.write(tray, i, v), m.write(tray, i, v));
            }
        }

        void step() {
            int[] f = floorArgs();
            int up = f[0];
            int low = f[1];
            String fl = up + ", " + low;
            int what = within(0, 1);
            int stuff = within(0, 2);
            int tray = within(0, 3);
            int t = within(0, Math.max(0, m.s.tenants.size() - 1));
            int b = within(0, Math.max(0, m.s.buttons.size() - 1));
            int k = within(-1, 6);
            switch (r.nextInt(46)) {
                case 0:
                    due("why(" + b + ")", x.why(b), m.why(b));
                    break;
                case 1:
                    due("leads(" + b + ", " + fl + ", " + what + ")", x.leads(b, up, low, what),
                            m.leads(b, up, low, what));
                    break;
                case 2:
                case 3:
                case 4:
                    due("press(" + b + ")", x.press(b), m.press(b));
                    break;
                case 5:
                    int n = within(1, r.nextInt(3) == 0 ? 12 : 3);
                    due("undo(" + n + ")", x.undo(n), m.undo(n));
                    break;
                case 6:
                    int jw = within(0, 3);
                    due("judge(" + tray + ", " + jw + ")", x.judge(tray, jw), m.judge(tray, jw));
                    break;
                case 7:
                    due("perform(" + tray + ")", x.perform(tray), m.perform(tray));
                    break;
                case 8:
                    int seed = r.nextInt();
                    int times = within(1, 60);
                    due("day(" + seed + ", " + times + ")", x.day(seed, times), m.day(seed, times));
                    break;
                case 9:
                case 10:
                    due("has(" + stuff + ", " + fl + ", " + what + ")", x.has(stuff, up, low, what),
                            m.has(stuff, up, low, what));
                    break;
                case 11:
                    int amount = within(0, 99);
                    due("where(" + stuff + ", " + amount + ", " + what + ")", x.where(stuff, amount, what),
                            m.where(stuff, amount, what));
                    break;
                case 12:
                    int other = within(0, 2);
                    due("alike(" + stuff + ", " + other + ", " + what + ")", x.alike(stuff, other, what),
                            m.alike(stuff, other, what));
                    break;
                case 13:
                    due("most(" + stuff + ")", x.most(stuff), m.most(stuff));
                    break;
                case 14:
                    due("tells(" + fl + ")", x.tells(up, low), m.tells(up, low));
                    break;
                case 15:
                    int fw = r.nextInt(3) == 0 ? 0 : within(10, 17);
                    due("fewest(" + fl + ", " + fw + ")", x.fewest(up, low, fw), m.fewest(up, low, fw));
                    break;
                case 16:
                    int rn = within(0, r.nextInt(6) == 0 ? 5 : 4);
                    due("reach(" + rn + ")", x.reach(rn), m.reach(rn));
                    break;
                case 17:
                    int hn = within(0, r.nextInt(6) == 0 ? 5 : 4);
                    due("highest(" + hn + ", " + what + ")", x.highest(hn, what), m.highest(hn, what));
                    break;
                case 18:
                    int tw = r.nextInt(3) == 0 ? 0 : r.nextBoolean() ? within(10, 14) : within(20, 24);
                    due("twins(" + tw + ")", x.twins(tw), m.twins(tw));
                    break;
                case 19:
                    int nm = within(2, 30);
                    due("never(" + nm + ", " + fl + ")", x.never(nm, up, low), m.never(nm, up, low));
                    break;
                case 20:
                    due("shown(" + fl + ")", x.shown(up, low), m.shown(up, low));
                    break;
                case 21:
                    int rm = within(2, 30);
                    due("rests(" + rm + ")", x.rests(rm), m.rests(rm));
                    break;
                case 22:
                    int u = within(0, Math.max(0, m.s.tenants.size() - 1));
                    boolean waits = r.nextBoolean();
                    int mw = within(0, 2);
                    due("meet(" + t + ", " + u + ", " + waits + ", " + mw + ")", x.meet(t, u, waits, mw),
                            m.meet(t, u, waits, mw));
                    break;
                case 23:
                    due("address(" + fl + ", " + k + ")", x.address(up, low, k), m.address(up, low, k));
                    break;
                case 24:
                    int d = within(1, some(3, 12, 40, 99, r.nextInt(20) == 0 ? 1000 : 120));
                    boolean above = r.nextBoolean();
                    due("neighbour(" + fl + ", " + d + ", " + above + ", " + what + ")",
                            x.neighbour(up, low, d, above, what), m.neighbour(up, low, d, above, what));
                    break;
                case 25:
                case 26:
                    int[] g = floorArgs();
                    due("simplest(" + fl + ", " + g[0] + ", " + g[1] + ", " + what + ")",
                            x.simplest(up, low, g[0], g[1], what), m.simplest(up, low, g[0], g[1], what));
                    break;
                case 27:
                    int fd = within(1, some(5, 30, 200));
                    due("floors(" + fd + ")", x.floors(fd), m.floors(fd));
                    break;
                case 28:
                    int rd = within(1, some(5, 30, 200));
                    due("rank(" + fl + ", " + rd + ")", x.rank(up, low, rd), m.rank(up, low, rd));
                    break;
                case 29:
                case 30:
                    due("parts(" + fl + ", " + k + ")", x.parts(up, low, k), m.parts(up, low, k));
                    break;
                case 31:
                    due("rent(" + t + ", " + what + ")", x.rent(t, what), m.rent(t, what));
                    break;
                case 32:
                    due("rents()", x.rents(), m.rents());
                    break;
                case 33:
                    due("moves(" + t + ", " + fl + ")", x.moves(t, up, low), m.moves(t, up, low));
                    break;
                case 34:
                    int ew = within(0, 3);
                    due("fairest(" + t + ", " + ew + ")", x.fairest(t, ew), m.fairest(t, ew));
                    break;
                case 35:
                    due("richest()", x.richest(), m.richest());
                    break;
                case 36:
                case 37:
                    int fk = r.nextInt(3) == 0 ? NONE : within(-1, 20);
                    due("fits(" + tray + ", " + fk + ")", x.fits(tray, fk), m.fits(tray, fk));
                    break;
                case 38:
                    int place = within(0, 7);
                    due("sure(" + tray + ", " + place + ")", x.sure(tray, place), m.sure(tray, place));
                    break;
                case 39:
                    due("odds(" + tray + ", " + fl + ")", x.odds(tray, up, low), m.odds(tray, up, low));
                    break;
                case 40:
                    due("ends(" + tray + ")", x.ends(tray), m.ends(tray));
                    break;
                case 41:
                    fillTray();
                    break;
                case 42:
                    int i = within(0, 40);
                    long v = r.nextLong();
                    due("write(" + tray + ", " + i + ", " + v + ")", x.write(tray, i, v), m.write(tray, i, v));
                    break;
                case 43:
                    due("copy(" + tray + ")", x.copy(tray), m.copy(tray));
                    if (tray >= 0 && tray < 4 && m.trays[tray] != null && m.trays[tray].length > 0) {
                        // there is no other way to see what came into a tray
                        due("judge(" + tray + ", 0)", x.judge(tray, 0), m.judge(tray, 0));
                    }
                    break;
                case 44:
                    int im = within(0, 1);
                    due("image(" + im + ")", x.image(im), m.image(im));
                    break;
                default:
                    int re = within(0, 1);
                    due("restore(" + re + ")", x.restore(re), m.restore(re));
                    look();
            }
        }

        void all() {
            for (int i = 0; i < 6 && !failed; i++) {
                tellHouse();
                for (int j = 0; j < 3; j++) {
                    fillTray();
                }
                for (int j = 0; j < 60 && !failed; j++) {
                    step();
                }
                look();
            }
            if (failed) {
                System.out.println("  " + String.join("\n  ", log.subList(Math.max(0, log.size() - 60), log.size())));
            }
        }
    }

    public static void main(String[] args) {
        int first = args.length > 0 ? Integer.parseInt(args[0]) : 1;
        int runs = args.length > 1 ? Integer.parseInt(args[1]) : 150;
        for (int i = first; i < first + runs && wrong < 5; i++) {
            new Run(i).all();
        }
        if (args.length > 0) {
            System.out.println(new java.util.TreeMap<>(CALLS));
            System.out.println(new java.util.TreeMap<>(CODES));
        }
        System.out.println(wrong == 0 ? "the class and the model agree" : "the class and the model do not agree");
        if (wrong != 0) {
            System.exit(1);
        }
    }
}
