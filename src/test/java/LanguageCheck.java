import java.nio.charset.StandardCharsets;
import java.nio.file.Files;
import java.nio.file.Path;
import java.util.ArrayList;
import java.util.HashMap;
import java.util.List;
import java.util.Map;
import java.util.Set;
import java.util.TreeSet;
import java.util.regex.Matcher;
import java.util.regex.Pattern;

/** Looks through the class's source for what LANGUAGE.md rules out, as far as that is seen without a compiler. */
public final class LanguageCheck {
    private static int wrong = 0;

    private static void say(String what) {
        wrong++;
        System.out.println(what);
    }

    /** Comments and texts become blanks, line ends stay. */
    private static String bare(String source) {
        StringBuilder b = new StringBuilder(source);
        Matcher m = Pattern.compile("/\\*.*?\\*/|//[^\\n]*|\"(\\\\.|[^\"\\\\])*\"|'(\\\\.|[^'\\\\])'", Pattern.DOTALL)
                .matcher(source);
        while (m.find()) {
            for (int i = m.start(); i < m.end(); i++) {
                if (b.charAt(i) != '\n') {
                    b.setCharAt(i, ' ');
                }
            }
        }
        return b.toString();
    }

    private static void forbid(String code, String pattern, String rule) {
        Matcher m = Pattern.compile(pattern).matcher(code);
        while (m.find()) {
            int line = code.substring(0, m.start()).split("\n", -1).length;
            say("line " + line + ": " + m.group() + " (" + rule + ")");
        }
    }

    private static final class Method {
        String owner;
        String name;
        String head;
        String body;
        int line;
    }

    private static final Pattern HEAD = Pattern.compile(
            "\\n( +)((?:public |private |static |final )*)([\\w\\[\\]]+ )?(\\w+)\\(([^()]*)\\) \\{\\n");

    private static List<Method> methods(String code) {
        List<Method> all = new ArrayList<>();
        Matcher m = HEAD.matcher(code);
        int from = 0;
        while (m.find(from)) {
            from = m.end() - 1;
            if (Set.of("if", "for", "while", "switch").contains(m.group(4)) || "else ".equals(m.group(3))) {
                continue;
            }
            int end = code.indexOf("\n" + m.group(1) + "}\n", m.end() - 1);
            Method one = new Method();
            one.name = m.group(4);
            one.head = m.group().trim();
            one.body = code.substring(m.end(), end);
            one.line = code.substring(0, m.start()).split("\n", -1).length + 1;
            String before = code.substring(0, m.start());
            Matcher c = Pattern.compile("class (\\w+)").matcher(before);
            while (c.find()) {
                one.owner = m.group(1).length() == 4 ? "FractionLift" : c.group(1);
            }
            all.add(one);
        }
        return all;
    }

    /** How many calls stand open at once, the library's too; a call of itself is not counted. */
    private static int depth(Method of, Map<String, List<Method>> byName, List<Method> open) {
        int deepest = 0;
        Matcher m = Pattern.compile("(\\w+)\\(").matcher(of.body);
        while (m.find()) {
            if (!byName.containsKey(m.group(1))) {
                deepest = Math.max(deepest, 1);
            }
            for (Method next : byName.getOrDefault(m.group(1), List.of())) {
                if (!open.contains(next)) {
                    open.add(next);
                    deepest = Math.max(deepest, depth(next, byName, open));
                    open.remove(next);
                }
            }
        }
        return deepest + 1;
    }

    public static void main(String[] args) throws Exception {
        byte[] bytes = Files.readAllBytes(Path.of("src/main/java/FractionLift.java"));
        for (byte c : bytes) {
            if (c <= 0) {
                say("a sign outside 1 to 127");
            }
        }
        String source = new String(bytes, StandardCharsets.ISO_8859_1);
        String code = bare(source);
        forbid(code, "\\b(throw|throws|try|catch|finally|synchronized|assert|package|record|volatile|var|yield)\\b", "rule 6");
        forbid(code, "->|::|@", "rule 2");
        forbid(code, "\\b(double|float|Object|Float|Double|System\\.(?!arraycopy)\\w+|Thread|Random|Optional)\\b", "rules 3, 4");
        forbid(code, "\\w+Exact\\b|\\bhashCode\\b|\\btoString\\b|\\bequals\\b", "rules 4, 6");
        forbid(code, "import (?!java\\.util\\.(Arrays|ArrayList|List);)[^\\n]*", "rule 4");
        forbid(code, "\\bstatic (?!final|int|long|boolean)[^\\n]*", "rule 5");
        forbid(code, "while \\(true\\)|for \\(;;", "rule 9");
        forbid(code, "\\bprotected\\b|(?<!private) static final class", "rule 1");
        Set<String> face = new TreeSet<>();
        for (String line : Files.readAllLines(Path.of("../shared/DOC.md"))) {
            Matcher m = Pattern.compile("^    public \\w+ (\\w+)\\(.*\\);").matcher(line);
            if (m.find()) {
                face.add(m.group(1));
            }
        }
        List<Method> all = methods(code);
        Map<String, List<Method>> byName = new HashMap<>();
        Set<String> publicOnes = new TreeSet<>();
        for (Method one : all) {
            byName.computeIfAbsent(one.name, k -> new ArrayList<>()).add(one);
            int lines = one.body.split("\n", -1).length + 2;
            if (lines > 60) {
                say(one.name + " has " + lines + " lines (rule 11)");
            }
            if (one.head.split(",", -1).length > 7) {
                say(one.name + " has more than seven parameters (rule 11)");
            }
            boolean isPublic = one.head.startsWith("public ");
            if (isPublic) {
                publicOnes.add(one.name);
            } else if (face.contains(one.name)) {
                say(one.owner + "." + one.name + " bears a public name (rule 1)");
            }
            if (one.owner.equals("FractionLift") && !isPublic && !one.head.startsWith("private ")) {
                say(one.name + " is neither public nor private (rule 1)");
            }
        }
        publicOnes.remove("FractionLift");
        if (!publicOnes.equals(face)) {
            say("the face is " + publicOnes + " (rule 1)");
        }
        int deepest = 0;
        for (Method one : all) {
            if (face.contains(one.name)) {
                int depth = depth(one, byName, new ArrayList<>(List.of(one)));
                deepest = Math.max(deepest, depth);
                if (depth > 8) {
                    say(one.name + " goes " + depth + " deep (rule 11)");
                }
            }
        }
        int classes = code.split("\\bclass \\w+ \\{", -1).length - 1;
        if (classes > 12) {
            say(classes + " classes (rule 11)");
        }
        System.out.println(all.size() + " methods, " + classes + " classes, calls " + deepest + " deep");
        System.out.println(wrong == 0 ? "nothing outside the language was found" : wrong + " places are outside the language");
        if (wrong != 0) {
            System.exit(1);
        }
    }
}
