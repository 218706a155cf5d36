import java.io.IOException;
import java.lang.reflect.Constructor;
import java.lang.reflect.Field;
import java.lang.reflect.Method;
import java.lang.reflect.Modifier;
import java.nio.file.Files;
import java.nio.file.Path;
import java.util.Set;
import java.util.TreeSet;
import java.util.regex.Matcher;
import java.util.regex.Pattern;

/** The public face, and those rules of LANGUAGE.md that can be seen from the class and its source. */
public final class FaceTest {
    private static final String[] FACE = {
        "int feed(int,int,int,int,int)", "boolean end(int)", "int text()", "int fault()", "int now(int)",
        "int lead(int,int)", "int form(int,int)", "int many(int)", "int row(int,int)", "int rank(int,int,int,int)",
        "int beside(int,int,int,int)", "int few(int)", "int nought(int)", "int lies(int,int)",
        "int come(int,int,int,int)", "int clear(int,boolean)", "int join(int,int,boolean,int)",
        "int upright(int,int)", "int times(int,int,boolean,int)", "int equate(int,int,int,int,int)",
        "int drop(int)", "int equation(int,int)", "int solutions()", "int solution()", "int witness()",
        "int kernel(int)", "int sides(int)", "int drawn(int,int)", "int undo()", "boolean image(int)",
        "boolean restore(int)"
    };
    /** What the rules leave out and a line of source would show. */
    private static final String[] BARRED = {
        "->", "::", "\\bcatch\\b", "\\btry\\b", "\\bfinally\\b", "\\bsynchronized\\b", "\\bassert\\b", "\\bpackage\\b",
        "Exact\\(", "\\bObject\\b", "\\bgetMessage\\b", "\\bString\\.format\\b", "System\\.(?!arraycopy)",
        "static \\{", "\\bprotected\\b", "\\blambda\\b", "\\bnanoTime\\b", "\\bRandom\\b"
    };

    private static final Check CHECK = new Check();

    private FaceTest() {
    }

    public static void main(String[] args) throws IOException {
        face();
        for (Class<?> inner : ModuleRows.class.getDeclaredClasses()) {
            innerClass(inner);
        }
        source(Files.readString(Path.of(System.getProperty("source", "src/main/java/ModuleRows.java"))));
        CHECK.close("FaceTest");
    }

    private static void face() {
        Class<?> type = ModuleRows.class;
        CHECK.due("the class is public and final", type.getModifiers() == (Modifier.PUBLIC | Modifier.FINAL), true);
        Set<String> wanted = new TreeSet<>(Set.of(FACE));
        Set<String> names = new TreeSet<>();
        for (Method method : type.getDeclaredMethods()) {
            if (!Modifier.isPrivate(method.getModifiers())) {
                CHECK.due(signature(method) + " is of the face", wanted.remove(signature(method)), true);
                CHECK.due(signature(method) + " is public alone", method.getModifiers() == Modifier.PUBLIC, true);
                names.add(method.getName());
            }
        }
        CHECK.due("not found: " + wanted, wanted.size(), 0);
        for (Method method : type.getDeclaredMethods()) {
            boolean hidden = Modifier.isPrivate(method.getModifiers());
            CHECK.due(method.getName() + " is no private name", hidden && names.contains(method.getName()), false);
        }
        for (Constructor<?> made : type.getDeclaredConstructors()) {
            CHECK.due("the constructor", made.getModifiers() == Modifier.PUBLIC && made.getParameterCount() == 0, true);
        }
        fields(type);
    }

    private static void fields(Class<?> type) {
        int own = 0;
        for (Field field : type.getDeclaredFields()) {
            int flags = field.getModifiers();
            boolean isFace = type == ModuleRows.class && field.getName().equals("NONE");
            CHECK.due(field + " is private", Modifier.isPrivate(flags) || isFace || type != ModuleRows.class, true);
            CHECK.due(field + " if static is final", !Modifier.isStatic(flags) || Modifier.isFinal(flags), true);
            own += Modifier.isStatic(flags) ? 0 : 1;
        }
        CHECK.due(type + " has few fields", own <= 20, true);
    }

    private static void innerClass(Class<?> inner) {
        CHECK.due(inner + " is static", Modifier.isStatic(inner.getModifiers()), true);
        CHECK.due(inner + " is not public", Modifier.isPublic(inner.getModifiers()), false);
        for (Method method : inner.getDeclaredMethods()) {
            CHECK.due(method + " takes few", method.getParameterCount() <= 7, true);
            for (String known : FACE) {
                boolean same = known.replaceAll("^\\w+ |\\(.*", "").equals(method.getName());
                CHECK.due(method + " has a name of its own", same, false);
            }
        }
        fields(inner);
    }

    private static String signature(Method method) {
        StringBuilder text = new StringBuilder();
        for (Class<?> type : method.getParameterTypes()) {
            text.append(text.length() > 0 ? "," : "").append(type.getName());
        }
        return method.getReturnType().getName() + " " + method.getName() + "(" + text + ")";
    }

    private static void source(String source) {
        String code = source.replaceAll("(?s)/\\*.*?\\*/", "").replaceAll("//[^\n]*", "");
        for (String barred : BARRED) {
            Matcher found = Pattern.compile(barred).matcher(code);
            CHECK.due("the source has " + barred, found.find(), false);
        }
        Matcher imports = Pattern.compile("import ([\\w.]+);").matcher(code);
        while (imports.find()) {
            boolean fine = Set.of("java.util.Arrays", "java.util.NoSuchElementException").contains(imports.group(1));
            CHECK.due("import of " + imports.group(1), fine, true);
        }
        Matcher thrown = Pattern.compile("throw new (\\w+)").matcher(code);
        while (thrown.find()) {
            CHECK.due("throw of " + thrown.group(1), thrown.group(1).equals("NoSuchElementException"), true);
        }
        CHECK.due("signs are 0 to 127", source.chars().allMatch(sign -> sign < 128), true);
    }
}
