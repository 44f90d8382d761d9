import java.lang.reflect.Field;
import java.lang.reflect.Method;
import java.lang.reflect.Modifier;
import java.nio.charset.StandardCharsets;
import java.nio.file.Files;
import java.nio.file.Path;
import java.util.ArrayList;
import java.util.HashSet;
import java.util.List;
import java.util.Set;
import java.util.TreeSet;
import java.util.regex.Matcher;
import java.util.regex.Pattern;

/** The face is the document's, and what LANGUAGE.md rules out does not stand in the source. */
public final class LanguageTest {
    private static int wrong = 0;

    public static void main(String[] args) throws Exception {
        Path root = Path.of(System.getProperty("project.root", "."));
        faceIsAsTold(Files.readString(root.resolve("../shared/DOC.md")));
        membersAreHidden(PepperPolicy.class);
        String source = Files.readString(root.resolve("src/main/java/PepperPolicy.java"), StandardCharsets.UTF_8);
        sourceKeepsTo(source);
        if (wrong == 0) System.out.println("the language is kept");
        if (wrong != 0) System.exit(1);
    }

    private static void check(boolean good, String what) {
        if (!good) {
            wrong++;
            System.out.println(what);
        }
    }

    private static void faceIsAsTold(String doc) {
        Set<String> told = new TreeSet<>();
        Matcher m = Pattern.compile("    public (int|long) ([a-z]+)\\(([^)]*)\\);").matcher(doc);
        while (m.find()) {
            String types = m.group(3).replaceAll("(int|long) [a-z]+", "$1").replace(" ", "");
            told.add(m.group(1) + " " + m.group(2) + "(" + types + ")");
        }
        Set<String> have = new TreeSet<>();
        for (Method method : PepperPolicy.class.getDeclaredMethods()) {
            if (!Modifier.isPublic(method.getModifiers())) continue;
            List<String> types = new ArrayList<>();
            for (Class<?> c : method.getParameterTypes()) types.add(c.getName());
            have.add(method.getReturnType().getName() + " " + method.getName() + "(" + String.join(",", types) + ")");
        }
        check(told.size() == 72, "the document tells " + told.size() + " methods");
        check(told.equals(have), "the face is " + have + ", not " + told);
    }

    private static void membersAreHidden(Class<?> face) {
        Set<String> names = new HashSet<>();
        for (Method m : face.getDeclaredMethods()) if (Modifier.isPublic(m.getModifiers())) names.add(m.getName());
        for (Method m : face.getDeclaredMethods()) {
            boolean open = Modifier.isPublic(m.getModifiers());
            check(open || Modifier.isPrivate(m.getModifiers()), m + " is neither public nor private");
            check(open || !names.contains(m.getName()), m + " bears a public name");
        }
        for (Field f : face.getDeclaredFields()) {
            boolean none = f.getName().equals("NONE");
            check(none || Modifier.isPrivate(f.getModifiers()), f + " is not private");
        }
        check(face.getDeclaredClasses().length <= 12, "too many classes");
        for (Class<?> c : face.getDeclaredClasses()) {
            check(Modifier.isStatic(c.getModifiers()) && !Modifier.isPublic(c.getModifiers()), c + " is not a hidden static class");
            int fields = 0;
            for (Field f : c.getDeclaredFields()) {
                boolean still = Modifier.isStatic(f.getModifiers());
                check(!still || Modifier.isFinal(f.getModifiers()), f + " is static state");
                fields += still ? 0 : 1;
            }
            check(fields <= 20, c + " has " + fields + " fields");
            for (Method m : c.getDeclaredMethods()) {
                check(!names.contains(m.getName()), m + " bears a public name");
                check(m.getParameterCount() <= 7, m + " takes too much");
            }
        }
    }

    private static void sourceKeepsTo(String source) {
        for (int i = 0; i < source.length(); i++) check(source.charAt(i) < 128, "a sign above 127 at " + i);
        String code = source.replaceAll("(?s)/\\*.*?\\*/", "").replaceAll("//[^\n]*", "").replaceAll("\"[^\"\n]*\"", "\"\"");
        String[] words = {"throw", "throws", "try", "catch", "synchronized", "assert", "instanceof", "Exception", "System\\.out",
            "equals", "hashCode", "toString", "Random", "currentTimeMillis", "nanoTime", "Thread", "lambda", "var", "volatile", "native",
            "HashMap", "Map", "Set", "MAX_VALUE", "MIN_VALUE", "\\w+Exact"};
        for (String word : words) check(!Pattern.compile("\\b" + word + "\\b").matcher(code).find(), word + " stands in the source");
        check(!code.contains("->") && !code.contains("::"), "a lambda or a method reference");
        check(!code.contains("\" +") && !code.contains("+ \""), "texts joined by +");
        check(!code.contains("static {"), "a static initialiser block");
        check(!Pattern.compile("^package ", Pattern.MULTILINE).matcher(code).find(), "a package line");
        Matcher imports = Pattern.compile("^import ([^;]+);", Pattern.MULTILINE).matcher(code);
        while (imports.find()) check(imports.group(1).equals("java.util.Arrays"), "imports " + imports.group(1));
        Matcher calls = Pattern.compile("\\b(System|Arrays|Math|Integer|Long)\\.(\\w+)").matcher(code);
        Set<String> free = Set.of("System.arraycopy", "Arrays.fill", "Math.max", "Math.min", "Integer.bitCount");
        while (calls.find()) check(free.contains(calls.group()), calls.group() + " is called");
        methodsAreShort(code);
    }

    private static void methodsAreShort(String code) {
        int start = -1;
        int depth = 0;
        String[] lines = code.split("\n");
        for (int i = 0; i < lines.length; i++) {
            boolean head = lines[i].matches("\\s{4,8}[^=;]*\\) \\{\\s*") && !lines[i].matches("\\s*(if|for|while|switch|\\}).*");
            if (head && start < 0) {
                start = i;
                depth = 0;
            }
            if (start >= 0) {
                for (char c : lines[i].toCharArray()) depth += c == '{' ? 1 : c == '}' ? -1 : 0;
                if (depth == 0) {
                    check(i - start < 60, "a method of " + (i - start + 1) + " lines at " + (start + 1));
                    start = -1;
                }
            }
        }
    }
}
