import java.lang.reflect.Constructor;
import java.lang.reflect.Field;
import java.lang.reflect.Method;
import java.lang.reflect.Modifier;
import java.nio.file.Files;
import java.nio.file.Path;
import java.util.ArrayList;
import java.util.List;
import java.util.Set;
import java.util.TreeSet;
import java.util.regex.Pattern;

/** The face is that of the document, and the file keeps to the rules of LANGUAGE.md that can be seen by a look. */
public final class FaceTest {
    static int wrong = 0;

    static void due(String what, Object got, Object want) {
        if (!want.equals(got)) {
            wrong++;
            System.out.println(what + " is " + got + ", due is " + want);
        }
    }

    static String sign(Method m) {
        List<String> types = new ArrayList<>();
        for (Class<?> type : m.getParameterTypes()) {
            types.add(type.getSimpleName());
        }
        return m.getReturnType().getSimpleName() + " " + m.getName() + "(" + String.join(", ", types) + ")";
    }

    static void face() {
        Set<String> seen = new TreeSet<>();
        Set<String> names = new TreeSet<>();
        for (Method m : SiteObjects.class.getDeclaredMethods()) {
            if (!Modifier.isPrivate(m.getModifiers())) {
                seen.add(sign(m));
                names.add(m.getName());
                due(m + " public and nothing more", m.getModifiers(), Modifier.PUBLIC);
            }
        }
        due("the methods", seen, new TreeSet<>(Set.of("int cls(int)", "int method(int, int)",
            "int step(int, int, int, int, int, int)", "int work(int, int, int)", "int name(int, int)",
            "int node(int, int)", "long held(int, int)", "long inside(int, int)", "long global(int)",
            "int leads(int, int, int)", "int run(long, int)", "int ran(int)", "int object(int, int)",
            "int many(int)", "int count(int)", "int within(int, int)")));
        Set<String> constants = new TreeSet<>();
        for (Field f : SiteObjects.class.getDeclaredFields()) {
            if (!Modifier.isPrivate(f.getModifiers())) {
                constants.add(f.getName());
            }
        }
        due("the constants", constants, new TreeSet<>(Set.of("BAD", "STATE", "FULL", "NONE")));
        Constructor<?>[] made = SiteObjects.class.getDeclaredConstructors();
        due("how many constructors", made.length, 1);
        due("the constructor's parameters", made[0].getParameterCount(), 0);
        due("final", Modifier.isFinal(SiteObjects.class.getModifiers()), true);
        for (Class<?> inner : SiteObjects.class.getDeclaredClasses()) {
            due(inner + " static", Modifier.isStatic(inner.getModifiers()), true);
            for (Method m : inner.getDeclaredMethods()) {
                due(m + " with the name of a public one", names.contains(m.getName()), false);
                due(m + " with over seven parameters", m.getParameterCount() > 7, false);
            }
            for (Field f : inner.getDeclaredFields()) {
                boolean isStatic = Modifier.isStatic(f.getModifiers());
                due(f + " static and not final", isStatic && !Modifier.isFinal(f.getModifiers()), false);
            }
        }
    }

    static void words(String file) throws Exception {
        String text = Files.readString(Path.of(file)).replaceAll("(?s)/\\*.*?\\*/", "").replaceAll("//[^\n]*", "");
        for (String word : new String[] {"throw", "throws", "try", "catch", "synchronized", "assert", "package", "protected",
            "Exact", "->", "::", "hashCode", "equals", "System.out", "import static"}) {
            boolean isThere = Pattern.compile("(?<![A-Za-z])" + Pattern.quote(word) + "(?![A-Za-z])").matcher(text).find();
            due("whether '" + word + "' is in the file", isThere, false);
        }
        List<String> imports = new ArrayList<>();
        for (String line : text.split("\n")) {
            if (line.startsWith("import")) {
                imports.add(line.trim());
            }
        }
        due("the imports", imports, List.of("import java.util.Arrays;"));
        int constructors = text.split("\\bnew\\b", -1).length - 1;
        int rows = text.split("(?m)^\\s+(final \\w+(\\[\\])? \\w+|this\\.\\w+|program|now|other|runner) = new ", -1).length - 1;
        due("how often 'new' stands beside the constructors' rows", constructors - rows, 0);
    }

    public static void main(String[] args) throws Exception {
        face();
        words(args.length > 0 ? args[0] : "src/main/java/SiteObjects.java");
        System.out.println(wrong == 0 ? "the face is as due" : wrong + " things are not as due");
        if (wrong != 0) {
            System.exit(1);
        }
    }
}
