import java.io.IOException;
import java.lang.reflect.Method;
import java.lang.reflect.Modifier;
import java.nio.charset.StandardCharsets;
import java.nio.file.Files;
import java.nio.file.Path;
import java.util.ArrayList;
import java.util.Comparator;
import java.util.List;
import java.util.regex.Matcher;
import java.util.regex.Pattern;
import java.util.stream.Stream;

/** Does what README.md says: its program prints what its comments say, and every call is told there. */
public final class ReadmeTest {
    private static int wrong = 0;

    public static void main(String[] args) throws Exception {
        Path root = Path.of(System.getProperty("project.root", "."));
        String readme = Files.readString(root.resolve("README.md"));
        callsAreTold(readme, Files.readString(root.resolve("../shared/DOC.md")));
        testsAreTold(readme, root.resolve("src/test/java"));
        programPrintsWhatItSays(readme, root.resolve("src/main/java/PepperPolicy.java"));
        System.out.println(wrong == 0 ? "README.md says what is so" : wrong + " wrong");
        if (wrong != 0) System.exit(1);
    }

    private static void check(boolean good, String what) {
        if (!good) {
            wrong++;
            System.out.println(what);
        }
    }

    private static void callsAreTold(String readme, String doc) {
        int told = 0;
        Matcher face = Pattern.compile("    public (?:int|long) ([a-z]+)\\(([^)]*)\\);").matcher(doc);
        while (face.find()) {
            String call = "`" + face.group(1) + "(" + face.group(2).replaceAll("(int|long) ", "") + ")`";
            // fault's two questions are told apart.
            boolean apart = face.group(1).equals("fault") && readme.contains("`fault(0)`") && readme.contains("`fault(1)`");
            check(apart || readme.contains(call), call + " is not told in README.md");
            told++;
        }
        int methods = 0;
        for (Method m : PepperPolicy.class.getDeclaredMethods()) methods += Modifier.isPublic(m.getModifiers()) ? 1 : 0;
        check(told == methods, told + " calls in the document, " + methods + " in the class");
    }

    private static void testsAreTold(String readme, Path tests) throws IOException {
        try (Stream<Path> files = Files.list(tests)) {
            for (Path file : files.toList()) {
                String name = file.getFileName().toString().replace(".java", "");
                if (name.endsWith("Test")) check(readme.contains("`" + name + "`"), name + " is not told in README.md");
            }
        }
    }

    private static String block(String readme, String language) {
        int start = readme.indexOf("```" + language + "\n");
        int end = readme.indexOf("```", start + 3);
        if (start < 0 || end < 0) throw new IllegalStateException("README.md has no block of " + language);
        return readme.substring(start + 4 + language.length(), end);
    }

    private static void programPrintsWhatItSays(String readme, Path source) throws Exception {
        String program = block(readme, "java");
        List<String> due = new ArrayList<>();
        for (String line : program.split("\n")) {
            if (!line.contains("say(x.")) continue;
            Matcher comment = Pattern.compile("// (-?\\d+)\\b").matcher(line);
            boolean found = comment.find();
            check(found, "no number is told in " + line);
            if (found) due.add(comment.group(1));
        }
        check(due.size() > 20, "the program says too little");
        Path place = Files.createTempDirectory("readme");
        try {
            Files.writeString(place.resolve("Morning.java"), program);
            Files.copy(source, place.resolve("PepperPolicy.java"));
            List<String> got = List.of();
            for (String line : block(readme, "sh").strip().split("\n")) got = run(place, line);
            check(got.equals(due), "the program prints " + got + ", its comments say " + due);
        } finally {
            remove(place);
        }
    }

    private static List<String> run(Path place, String line) throws Exception {
        Process process = new ProcessBuilder(line.split(" ")).directory(place.toFile()).redirectErrorStream(true).start();
        String said = new String(process.getInputStream().readAllBytes(), StandardCharsets.UTF_8);
        check(process.waitFor() == 0, line + " fails: " + said);
        return said.isBlank() ? List.of() : List.of(said.strip().split("\\s+"));
    }

    private static void remove(Path place) throws IOException {
        try (Stream<Path> files = Files.walk(place)) {
            for (Path file : files.sorted(Comparator.reverseOrder()).toList()) Files.delete(file);
        }
    }
}
