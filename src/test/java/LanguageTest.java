import java.io.IOException;
import java.lang.management.ManagementFactory;
import java.lang.reflect.Constructor;
import java.lang.reflect.Field;
import java.lang.reflect.Method;
import java.lang.reflect.Modifier;
import java.nio.file.Files;
import java.nio.file.Path;
import java.util.ArrayList;
import java.util.Arrays;
import java.util.List;
import java.util.Set;
import java.util.TreeSet;
import java.util.regex.Matcher;
import java.util.regex.Pattern;
import java.util.stream.Collectors;

/** The rules of LANGUAGE.md that can be looked at from outside, the face of the document, and the room that calls take. */
public final class LanguageTest {
    private static int wrong = 0;

    private static void mustBe(boolean is, String what) {
        if (!is) {
            wrong++;
            System.out.println("not so: " + what);
        }
    }

    private static List<Class<?>> classes() {
        List<Class<?>> out = new ArrayList<>(List.of(NationBooks.class.getDeclaredClasses()));
        out.add(NationBooks.class);
        return out;
    }

    private static Set<String> faceOfDocument() throws IOException {
        String text = Files.readString(Path.of("../shared/DOC.md"));
        Set<String> face = new TreeSet<>();
        Matcher m = Pattern.compile("    public (int|long) (\\w+)\\((.*)\\);").matcher(text);
        while (m.find()) {
            String types = Arrays.stream(m.group(3).split(", ")).map(p -> p.split(" ")[0]).collect(Collectors.joining(","));
            face.add(m.group(1) + " " + m.group(2) + "(" + types + ")");
        }
        return face;
    }

    private static void face() throws IOException {
        Set<String> methods = new TreeSet<>();
        Set<String> publicNames = new TreeSet<>();
        for (Method m : NationBooks.class.getDeclaredMethods()) {
            if (Modifier.isPrivate(m.getModifiers())) continue;
            String types = Arrays.stream(m.getParameterTypes()).map(Class::getName).collect(Collectors.joining(","));
            methods.add(m.getReturnType() + " " + m.getName() + "(" + types + ")");
            publicNames.add(m.getName());
            mustBe(Modifier.isPublic(m.getModifiers()), m + " is public or private");
        }
        mustBe(methods.equals(faceOfDocument()), "the face is the document's: " + methods);
        mustBe(methods.size() == 56, "there are 56 methods");
        Set<String> constants = new TreeSet<>();
        for (Field f : NationBooks.class.getDeclaredFields()) {
            if (!Modifier.isPrivate(f.getModifiers())) constants.add(f.getName());
        }
        mustBe(constants.equals(Set.of("NONE", "BAD", "NOT", "FULL")), "the constants are the document's: " + constants);
        Constructor<?>[] constructors = NationBooks.class.getDeclaredConstructors();
        mustBe(constructors.length == 1 && constructors[0].getParameterCount() == 0, "one constructor");
        mustBe(Modifier.isFinal(NationBooks.class.getModifiers()), "the class is final");
        for (Class<?> c : classes()) {
            for (Method m : c.getDeclaredMethods()) {
                boolean isFace = c == NationBooks.class && Modifier.isPublic(m.getModifiers());
                mustBe(isFace || !publicNames.contains(m.getName()), m + " has a name of its own");
            }
        }
    }

    private static void sizes() {
        mustBe(classes().size() <= 12, "at most twelve classes");
        for (Class<?> c : classes()) {
            mustBe(c == NationBooks.class || Modifier.isStatic(c.getModifiers()), c + " is static");
            int fields = 0;
            for (Field f : c.getDeclaredFields()) {
                boolean isStatic = Modifier.isStatic(f.getModifiers());
                fields += isStatic ? 0 : 1;
                mustBe(!isStatic || Modifier.isFinal(f.getModifiers()), f + " is final");
            }
            mustBe(fields <= 20, c + " has at most twenty fields");
            for (Method m : c.getDeclaredMethods()) {
                mustBe(m.getParameterCount() <= 7, m + " has at most seven parameters");
            }
        }
    }

    private static void text() throws IOException {
        String source = Files.readString(Path.of("src/main/java/NationBooks.java"));
        String code = source.replaceAll("(?s)/\\*.*?\\*/", "").replaceAll("//[^\n]*", "");
        for (String word : List.of("throw", "try", "catch", "synchronized", "assert", "throws", "Object", "Exact",
                "equals", "hashCode", "toString", "MIN_VALUE", "MAX_VALUE", "package", "volatile", "native")) {
            mustBe(!Pattern.compile("\\b" + word + "\\b|\\w" + word + "\\(").matcher(code).find(), "no " + word);
        }
        mustBe(!code.contains("->") && !code.contains("::"), "no lambda, no method reference");
        Matcher imports = Pattern.compile("import ([^;]*);").matcher(code);
        while (imports.find()) {
            mustBe(imports.group(1).equals("java.util.Arrays"), "no import " + imports.group(1));
        }
        int lines = 0;
        for (String line : source.split("\n")) {
            lines = line.matches(" {4}( {4})?}") ? 0 : lines + 1;
            boolean isHead = line.matches(" {4}( {4})?\\w.*\\{");
            if (isHead) lines = 1;
            mustBe(lines <= 60, "a method of more than sixty lines at " + line);
            mustBe(line.chars().allMatch(c -> c < 128), "plain signs alone in " + line);
        }
    }

    private static long allocated() {
        return ((com.sun.management.ThreadMXBean) ManagementFactory.getThreadMXBean()).getCurrentThreadAllocatedBytes();
    }

    private static void askAll(NationBooks x, int i) {
        x.trust(i % 10, 1 + i % 9);
        x.row(i % 10, i % 720, i, i % 10);
        x.sheet(i % 4, i % 3, 60);
        x.write(i % 4, 0, 0, 0);
        x.type(0, '1');
        x.apart(i % 6, 11);
        x.step(i % 720, 0, 9, 0, 0);
        x.led(i % 576, true);
        x.unkept(0);
        x.digest();
    }

    private static void room() {
        NationBooks warm = new NationBooks();
        askAll(warm, 0);
        allocated();
        long before = allocated();
        NationBooks x = new NationBooks();
        long made = allocated();
        for (int i = 0; i < 512; i++) {
            askAll(x, i);
        }
        long after = allocated();
        mustBe(made - before < 100000, "a new object takes little room: " + (made - before));
        mustBe(after - made < 10000, "calls take none: " + (after - made));
    }

    public static void main(String[] args) throws IOException {
        face();
        sizes();
        text();
        room();
        System.out.println(wrong == 0 ? "the rules are kept" : wrong + " rules are not kept");
        if (wrong != 0) System.exit(1);
    }
}
