import java.io.IOException;
import java.nio.file.Files;
import java.nio.file.Path;
import java.util.ArrayList;
import java.util.List;

/** What the tests of the project share: answers that are due, houses told, and calls that must change nothing. */
abstract class Bench {
    static final int NONE = FractionLift.NONE;
    static final int SPENT = FractionLift.SPENT;

    private static int wrong = 0;
    private static String about = "";
    private static String document = null;

    interface Call {
        long on(FractionLift x);
    }

    interface Recipe {
        FractionLift make();
    }

    /** What is due from now on is due by these words of the document. */
    static void sentence(String words) {
        about = words;
        if (!document().contains(words)) {
            wrong++;
            System.out.println("the document does not say: " + words);
        }
    }

    private static String document() {
        if (document == null) {
            try {
                document = Files.readString(Path.of("../shared/DOC.md")).replaceAll("\\s+", " ");
            } catch (IOException e) {
                System.out.println("../shared/DOC.md can't be read");
                document = "";
            }
        }
        return document;
    }

    static void promise(int number) {
        about = "promise " + number;
    }

    static void due(String call, long got, long want) {
        if (got != want) {
            wrong++;
            System.out.println(about + ": " + call + " answered " + got + ", due is " + want);
        }
    }

    static void fraction(String call, long up, long low, long wantUp, long wantLow) {
        due(call + ", upper", up, wantUp);
        due(call + ", lower", low, wantLow);
    }

    static void finish() {
        System.out.println(wrong == 0 ? "all answers are as due" : wrong + " answers are not as due");
        if (wrong != 0) {
            System.exit(1);
        }
    }

    // ---- texts and trays

    /** A text comes onto the tape, blanks behind it up to the next twenty. */
    static int feed(FractionLift x, String text) {
        int taped = x.count(7);
        for (int begin = 0; begin < text.length(); begin += 20) {
            int[] v = new int[5];
            for (int i = 0; i < 20; i++) {
                int c = begin + i < text.length() ? text.charAt(begin + i) : ' ';
                v[i / 4] = v[i / 4] << 8 | c;
            }
            taped = x.feed(v[0], v[1], v[2], v[3], v[4]);
        }
        return taped;
    }

    static int tell(FractionLift x, String text) {
        feed(x, text);
        return x.house(text.length());
    }

    static FractionLift told(String text) {
        FractionLift x = new FractionLift();
        int lines = tell(x, text);
        if (lines < 0) {
            due("house(\"" + text + "\")", lines, 0);
        }
        return x;
    }

    static void tray(FractionLift x, int tray, int sort, long... values) {
        due("numbers", x.numbers(tray, sort, values.length), 0);
        for (int i = 0; i < values.length; i++) {
            due("write", x.write(tray, i, values[i]), values[i]);
        }
    }

    static String times(int n, String part) {
        return part.repeat(n);
    }

    // ---- refused calls

    /** A house of all kinds: pressed, with images, trays, a fault and a tape that is not empty. */
    static FractionLift fullHouse() {
        FractionLift x = told("top 5;button:x+1;button:x/2;button:1/(x-2);button:999*999*999*999*x;button:x-1;"
                + "floor 3 has 10 50 7;floor 1 has 20 40 7;floor 1/2 has 0 90 7;tenant 1;tenant 5/2;tenant 0;stick 3;"
                + "at 1/2;");
        x.press(0);
        x.press(1);
        x.image(0);
        x.tells(2, 1);
        x.moves(1, 7, 2);
        x.press(0);
        x.image(1);
        x.press(1);
        x.press(0);
        x.press(0);
        tray(x, 0, 0, 0, 1, 4);
        tray(x, 1, 3, -1, 1, -1, 3);
        x.numbers(2, 1, 40);
        due("a text with a fault", tell(x, "at 1;at"), -32);
        due("more tape", feed(x, "stick 4; at 7/9;"), 20);
        return x;
    }

    static void refused(String call, long code, Call refusedCall) {
        refused(Bench::fullHouse, call, code, refusedCall);
    }

    /** The call answers by the code, and the object answers from then on as one that was never called so. */
    static void refused(Recipe recipe, String call, long code, Call refusedCall) {
        FractionLift x = recipe.make();
        FractionLift same = recipe.make();
        due(call, refusedCall.on(x), code);
        unchanged(call, x, same);
    }

    /** Both objects answer alike whatever is asked. */
    static void unchanged(String call, FractionLift x, FractionLift same) {
        List<Long> got = new ArrayList<>();
        List<Long> want = new ArrayList<>();
        askAll(x, got);
        askAll(same, want);
        for (int i = 0; i < Math.max(got.size(), want.size()); i++) {
            if (i >= got.size() || i >= want.size() || !got.get(i).equals(want.get(i))) {
                wrong++;
                System.out.println(about + ": behind " + call + " something has changed (question " + i + ")");
                return;
            }
        }
    }

    /** Some 400 calls at the most: an object is promised for 512. */
    private static void askAll(FractionLift x, List<Long> answers) {
        askHouse(x, answers);
        for (int t = 0; t < 4; t++) {
            for (int what = 0; what < 4; what++) {
                answers.add((long) x.judge(t, what));
            }
            answers.add((long) x.fits(t, NONE));
        }
        for (int i = 0; i <= 12; i++) {
            answers.add((long) x.undo(1));
            answers.add(x.at(0) * 1000000L + x.at(1));
        }
        for (int t = 0; t < 4; t++) {
            for (int i : new int[] {0, 2, 3, 4, 39}) {
                answers.add(x.write(t, i, 0x123456789abcdefL));
            }
        }
        answers.add((long) x.fault(0));
        answers.add((long) x.fault(1));
        answers.add((long) x.house(x.count(7)));
        answers.add((long) x.count(8));
        answers.add((long) x.at(1));
        for (int i = 0; i < 2; i++) {
            answers.add((long) x.restore(i));
            askHouse(x, answers);
        }
        answers.add((long) x.tells(1, 1));
        answers.add((long) x.tells(1, 2));
    }

    private static void askHouse(FractionLift x, List<Long> answers) {
        for (int what = 0; what < 9; what++) {
            answers.add((long) x.count(what));
        }
        answers.add(x.at(0) * 1000000L + x.at(1));
        for (int k = 0; k < x.count(2); k++) {
            for (int what = 0; what < 6; what++) {
                answers.add((long) x.floor(k, what));
            }
        }
        for (int t = 0; t < x.count(3); t++) {
            answers.add(x.tenant(t, 0) * 1000L + x.tenant(t, 1));
        }
        for (int b = 0; b < x.count(1); b++) {
            answers.add((long) x.leads(b, 3, 1, 0));
        }
        answers.add(x.has(0, 1, 3, 0));
        answers.add(x.has(1, 3, 1, 0));
        answers.add(x.where(0, 9, 1));
        answers.add(x.alike(0, 1, 1));
        answers.add((long) x.most(2));
    }
}
