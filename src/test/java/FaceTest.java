import java.io.IOException;
import java.lang.reflect.Constructor;
import java.lang.reflect.Field;
import java.lang.reflect.Method;
import java.lang.reflect.Modifier;
import java.nio.file.Files;
import java.nio.file.Path;
import java.util.ArrayList;
import java.util.List;
import java.util.Set;
import java.util.TreeSet;
import java.util.regex.Matcher;
import java.util.regex.Pattern;

/** The class has the document's face and no other, and its source keeps to rules of LANGUAGE.md. */
public final class FaceTest {
    private static final Path SOURCE = Path.of("src/main/java/ThreeEmpties.java");
    private static final Path DOCUMENT = Path.of("../shared/DOC.md");

    private static int wrong = 0;

    public static void main(String[] args) throws IOException {
        String document = Files.readString(DOCUMENT);
        face(document.substring(document.indexOf("```java") + 7, document.indexOf("## Terms")));
        source(Files.readString(SOURCE));
        System.out.println(wrong == 0 ? "the face and the source are as told" : wrong + " faults");
        if (wrong != 0) {
            System.exit(1);
        }
    }

    private static void fail(String what) {
        wrong++;
        System.out.println(what);
    }

    private static void face(String told) {
        Set<String> want = new TreeSet<>();
        Matcher m = Pattern.compile("public (int|long) (\\w+)\\(([^)]*)\\)").matcher(told);
        while (m.find()) {
            want.add(m.group(1) + " " + m.group(2) + "(" + m.group(3).replaceAll("(int|long) \\w+", "$1") + ")");
        }
        Set<String> have = new TreeSet<>();
        Set<String> names = new TreeSet<>();
        for (Method method : ThreeEmpties.class.getDeclaredMethods()) {
            if (!Modifier.isPrivate(method.getModifiers())) {
                names.add(method.getName());
                StringBuilder types = new StringBuilder();
                for (Class<?> type : method.getParameterTypes()) {
                    types.append(types.length() == 0 ? "" : ", ").append(type.getName());
                }
                have.add(method.getReturnType().getName() + " " + method.getName() + "(" + types + ")");
            }
        }
        if (!want.equals(have) || want.size() != 34) {
            fail("methods: " + have + ", told are " + want);
        }
        fieldsAndConstructors(names);
    }

    private static void fieldsAndConstructors(Set<String> names) {
        List<Class<?>> classes = new ArrayList<>(List.of(ThreeEmpties.class));
        classes.addAll(List.of(ThreeEmpties.class.getDeclaredClasses()));
        for (Class<?> c : classes) {
            for (Method method : c.getDeclaredMethods()) {
                if (Modifier.isPrivate(method.getModifiers()) && names.contains(method.getName())) {
                    fail("a private method bears a public one's name: " + method);
                }
                if (method.getParameterCount() > 7) {
                    fail("too many parameters: " + method);
                }
            }
            int fields = 0;
            for (Field field : c.getDeclaredFields()) {
                boolean isStatic = Modifier.isStatic(field.getModifiers());
                fields += isStatic ? 0 : 1;
                if (isStatic && !Modifier.isFinal(field.getModifiers())) {
                    fail("static, not final: " + field);
                }
                if (!Modifier.isPrivate(field.getModifiers())
                    && !Set.of("NONE", "BAD", "STATE", "FULL", "NO").contains(field.getName())) {
                    fail("a field that is not told: " + field);
                }
            }
            if (fields > 20) {
                fail("too many fields: " + c);
            }
            if (c != ThreeEmpties.class && !Modifier.isStatic(c.getModifiers())) {
                fail("a class inside that is not static: " + c);
            }
        }
        Constructor<?>[] made = ThreeEmpties.class.getDeclaredConstructors();
        if (made.length != 1 || made[0].getParameterCount() != 0 || !Modifier.isPublic(made[0].getModifiers())) {
            fail("constructors are not as told");
        }
        if (!Modifier.isFinal(ThreeEmpties.class.getModifiers()) || classes.size() > 12) {
            fail("the class is not final, or has too many inside");
        }
    }

    private static void source(String source) {
        String code = source.replaceAll("(?s)/\\*.*?\\*/", "").replaceAll("//[^\n]*", "");
        for (String word : List.of("throw", "throws", "try", "catch", "synchronized", "assert", "instanceof", "import",
            "package", "protected", "Object", "System\\.(?!arraycopy)", "toString", "hashCode", "->", "::", "Exact")) {
            String edge = Character.isLetter(word.charAt(0)) && word.matches("\\w+") ? "\\b" : "";
            if (Pattern.compile(edge + word + edge).matcher(code).find()) {
                fail("the source has " + word);
            }
        }
        if (!code.chars().allMatch(c -> c == '\n' || c >= 32 && c < 127)) {
            fail("a sign beyond 127, or a tab");
        }
        makesObjectsInConstructorsAlone(code);
        methodsAreShort(code);
    }

    /** All calls of a run live in one room: what a call needs has been made by the constructor. */
    private static void makesObjectsInConstructorsAlone(String code) {
        int constructor = code.indexOf("public ThreeEmpties()");
        int end = code.indexOf("\n    }", constructor);
        String others = code.substring(0, constructor) + code.substring(end);
        for (String line : others.split("\n")) {
            if (line.matches(".*\\bnew\\b.*") && !line.matches("\\s+private final [\\w\\[\\]]+ \\w+ = new .*;")) {
                fail("an object is made outside a constructor: " + line.strip());
            }
        }
    }

    private static void methodsAreShort(String code) {
        Matcher m = Pattern.compile("(?sm)^( +)(?:public|private)[^;={]*\\([^;={]*\\{\n(.*?)\n\\1\\}").matcher(code);
        int methods = 0;
        while (m.find()) {
            methods++;
            if (m.group(2).split("\n").length > 60) {
                fail("a long method: " + m.group().substring(0, 60).strip());
            }
        }
        if (methods < 34) {
            fail("only " + methods + " methods were found");
        }
    }
}
