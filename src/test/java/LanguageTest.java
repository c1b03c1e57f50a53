import java.io.IOException;
import java.nio.file.Files;
import java.nio.file.Path;
import java.util.List;
import java.util.Set;
import java.util.TreeSet;
import java.util.regex.Matcher;
import java.util.regex.Pattern;

/** What can be seen of ../shared/LANGUAGE.md in the program's text alone: a first sieve, no proof. */
public final class LanguageTest {
    private static int wrong = 0;

    private LanguageTest() {
    }

    public static void main(String[] args) throws IOException {
        String whole = Files.readString(Path.of("src/main/java/RingDater.java"));
        String code = whole.replaceAll("(?s)/\\*.*?\\*/", "").replaceAll("//[^\n]*", "");
        none(whole, "[^\\n\\x20-\\x7e]", "a sign that is not 32 to 126");
        none(code, "->|::", "a lambda, a method reference or an arrow");
        none(code, "\\b(try|catch|finally|synchronized|assert|volatile|native|Thread|Random|System|Object|Exception)\\b",
                "a word that is left out");
        none(code, "\\b(double|float|long)\\b", "a type that is not needed here");
        none(code, "\\w+Exact\\b", "a function that throws");
        none(code, "\"\\s*\\+|\\+\\s*\"", "texts joined by +");
        none(code, "\\bimport (?!java\\.util\\.NoSuchElementException;)", "an import");
        none(code, "(?m)^package ", "a package");
        none(code, "\\bthrow (?!new (NoSuchElement|IllegalArgument)Exception\\(\\);)", "another throw");
        none(code, "\\bstatic (?!final|int |boolean |void |[A-Z]\\w* \\w+\\()", "static state");
        none(code, "(?m)^    (protected |int|boolean|static|final)", "a member of the face that is package-visible");
        classes(code);
        methods(code);
        System.out.println(wrong == 0 ? "LanguageTest: keeps to the rules" : "LanguageTest: " + wrong + " wrong");
        System.exit(wrong == 0 ? 0 : 1);
    }

    private static void none(String code, String pattern, String what) {
        Matcher m = Pattern.compile(pattern).matcher(code);
        while (m.find()) {
            wrong++;
            System.out.println(what + ": line " + code.substring(0, m.start()).split("\n", -1).length + " without comments");
        }
    }

    private static void classes(String code) {
        int classes = 0;
        Matcher m = Pattern.compile("(?m)^ *(.*)\\b(class|record|interface|enum) \\w+ ").matcher(code);
        while (m.find()) {
            classes++;
            if (!m.group(1).trim().equals(classes == 1 ? "public final" : "private static final")) {
                wrong++;
                System.out.println("a class is " + m.group());
            }
        }
        if (classes > 12) {
            wrong++;
            System.out.println("too many classes: " + classes);
        }
    }

    private static void methods(String code) {
        Set<String> face = new TreeSet<>();
        Set<String> inside = new TreeSet<>();
        List<String> lines = code.lines().toList();
        Pattern head = Pattern.compile("^( {4}| {8})((?:public |private |static )*)([A-Za-z\\[\\]]+) (\\w+)\\((.*)");
        for (int i = 0; i < lines.size(); i++) {
            Matcher m = head.matcher(lines.get(i));
            if (m.matches() && !m.group(3).matches("new|return|throw|else")) {
                (m.group(2).contains("public") ? face : inside).add(m.group(4));
                length(lines, i, m.group(1), m.group(4));
                if (m.group(5).split(",").length > 7) {
                    wrong++;
                    System.out.println(m.group(4) + " takes too much");
                }
            }
        }
        if (face.size() != 30) {
            wrong++;
            System.out.println("the face has " + face.size() + " names: " + face);
        }
        inside.retainAll(face);
        if (!inside.isEmpty()) {
            wrong++;
            System.out.println("names of the face inside: " + inside);
        }
    }

    private static void length(List<String> lines, int from, String indent, String name) {
        int to = from;
        while (to < lines.size() && !lines.get(to).equals(indent + "}")) {
            to++;
        }
        if (to - from > 60) {
            wrong++;
            System.out.println(name + " is " + (to - from + 1) + " lines long");
        }
    }
}
