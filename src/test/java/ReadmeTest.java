import java.io.ByteArrayOutputStream;
import java.io.IOException;
import java.io.PrintStream;
import java.net.URL;
import java.net.URLClassLoader;
import java.nio.file.Files;
import java.nio.file.Path;
import java.util.ArrayList;
import java.util.Comparator;
import java.util.List;
import java.util.regex.Matcher;
import java.util.regex.Pattern;
import java.util.stream.Stream;

/** What README.md shows as the class's use compiles beside it, and prints what the remarks behind each println say. */
public final class ReadmeTest {
    private static final Pattern BLOCK = Pattern.compile("(?s)```java\n(.*?)\n```");
    private static final Pattern NAME = Pattern.compile("public final class (\\w+)");
    private static final Pattern PRINTED = Pattern.compile("System\\.out\\.println\\(.*\\); *// (\\S+): \\S.*");

    private static int wrong = 0;

    private ReadmeTest() {
    }

    public static void main(String[] args) throws IOException, InterruptedException, ReflectiveOperationException {
        Path folder = Files.createTempDirectory("readme");
        try {
            List<String> shown = shown(Files.readString(Path.of("README.md")));
            if (compiles(folder, shown)) {
                for (String program : shown) {
                    run(folder, program);
                }
            }
            if (shown.size() < 2) {
                tell("README.md shows too little: " + shown.size());
            }
        } finally {
            wipe(folder);
        }
        System.out.println(wrong == 0 ? "ReadmeTest: README.md says what is so" : "ReadmeTest: " + wrong + " wrong");
        System.exit(wrong == 0 ? 0 : 1);
    }

    private static void tell(String what) {
        wrong++;
        System.out.println(what);
    }

    private static List<String> shown(String readme) {
        List<String> shown = new ArrayList<>();
        Matcher m = BLOCK.matcher(readme);
        while (m.find()) {
            shown.add(m.group(1));
        }
        return shown;
    }

    private static String nameOf(String program) {
        Matcher m = NAME.matcher(program);
        return m.find() ? m.group(1) : "nothing";
    }

    private static boolean compiles(Path folder, List<String> shown) throws IOException, InterruptedException {
        List<String> command = new ArrayList<>(List.of("javac", "-encoding", "UTF-8", "-Xlint:all", "-Werror", "-d", folder.toString(),
                "src/main/java/RingDater.java"));
        for (String program : shown) {
            Path file = folder.resolve(nameOf(program) + ".java");
            Files.writeString(file, program + "\n");
            command.add(file.toString());
        }
        if (new ProcessBuilder(command).inheritIO().start().waitFor() != 0) {
            tell("what README.md shows doesn't compile");
            return false;
        }
        return true;
    }

    /** The class loader sees the folder alone: RingDater is that beside which it was compiled. */
    private static void run(Path folder, String program) throws IOException, ReflectiveOperationException {
        List<String> due = due(program);
        PrintStream out = System.out;
        ByteArrayOutputStream printed = new ByteArrayOutputStream();
        try (URLClassLoader loader = new URLClassLoader(new URL[] {folder.toUri().toURL()}, ClassLoader.getPlatformClassLoader())) {
            System.setOut(new PrintStream(printed, true));
            loader.loadClass(nameOf(program)).getMethod("main", String[].class).invoke(null, (Object) new String[0]);
        } finally {
            System.setOut(out);
        }
        List<String> got = printed.toString().lines().toList();
        if (got.size() != due.size()) {
            tell(nameOf(program) + " prints " + got.size() + " lines, due is " + due.size());
        }
        for (int i = 0; i < Math.min(got.size(), due.size()); i++) {
            if (!got.get(i).equals(due.get(i))) {
                tell(nameOf(program) + ", line " + (i + 1) + " printed: " + got.get(i) + ", due is " + due.get(i));
            }
        }
    }

    private static List<String> due(String program) {
        List<String> due = new ArrayList<>();
        for (String line : program.lines().toList()) {
            Matcher m = PRINTED.matcher(line.trim());
            if (m.matches()) {
                due.add(m.group(1));
            } else if (line.contains("println")) {
                tell(nameOf(program) + " doesn't say what it prints: " + line.trim());
            }
        }
        return due;
    }

    private static void wipe(Path folder) throws IOException {
        try (Stream<Path> all = Files.walk(folder)) {
            for (Path path : all.sorted(Comparator.reverseOrder()).toList()) {
                Files.delete(path);
            }
        }
    }
}
