import java.io.IOException;
import java.lang.reflect.Constructor;
import java.lang.reflect.Field;
import java.lang.reflect.Method;
import java.lang.reflect.Modifier;
import java.nio.file.Files;
import java.nio.file.Path;
import java.util.Arrays;
import java.util.HashSet;
import java.util.Set;
import java.util.TreeSet;
import java.util.regex.Matcher;
import java.util.regex.Pattern;

/** The class has the document's face and no more, and its source keeps to what LANGUAGE.md lets be seen in a text. */
public final class FaceTests {
    private static final String[] METHODS = {
        "int tell()", "int fold(int)", "int unroll(int)", "int prune()", "int edit(int,int)", "int insert(int,int)",
        "int delete(int)", "int letter(int)", "int symbol(int,int)", "int ofRule(int,int)", "int count(int)",
        "int pair(int,int)", "int best(int)", "long ratio()", "int share(int)", "int mark()", "int couldBe()",
        "int unlike(int)", "int opens(int)", "int put(long)", "int wipe()", "int fault()", "int undo()", "int save(int)",
        "int restore(int)"};
    private static final String[] CONSTANTS = {"NO_SUCH", "BAD_VALUE", "BAD_TEXT", "TOO_MANY", "NOT_POSSIBLE", "NONE"};
    private static final String[] UNWANTED = {"->", "::", "\\bthrow\\b", "\\btry\\b", "\\bcatch\\b", "\\bfinally\\b",
        "\\bassert\\b", "\\bsynchronized\\b", "\\binstanceof\\b", "\\bSystem\\.(?!arraycopy\\b)", "\\bThread\\b", "\\bRandom\\b",
        "\\bDouble\\.", "\\bFloat\\.", "\\bObject\\b", "\\bprotected\\b", "\\bnull\\b", "\\w+Exact\\b", "\\bhashCode\\b"};

    private static int wrong = 0;

    private static void due(String what, Object got, Object want) {
        if (!got.equals(want)) {
            wrong++;
            System.out.println(what + ": " + got + ", due is " + want);
        }
    }

    private static void face() {
        Class<?> face = PairGrammars.class;
        due("modifiers of the class", Modifier.toString(face.getModifiers()), "public final");
        Set<String> methods = new TreeSet<>();
        Set<String> ours = new HashSet<>();
        for (Method method : face.getDeclaredMethods()) {
            if (!Modifier.isPrivate(method.getModifiers())) {
                due("modifiers of " + method.getName(), Modifier.toString(method.getModifiers()), "public");
                String parameters = Arrays.toString(method.getParameterTypes()).replaceAll("[\\[\\] ]", "");
                methods.add(method.getReturnType() + " " + method.getName() + "(" + parameters + ")");
                ours.add(method.getName());
            }
        }
        due("the methods", methods, new TreeSet<>(Arrays.asList(METHODS)));
        Set<String> constants = new TreeSet<>();
        for (Field field : face.getDeclaredFields()) {
            if (!Modifier.isPrivate(field.getModifiers())) {
                due("modifiers of " + field.getName(), Modifier.toString(field.getModifiers()), "public static final");
                due("type of " + field.getName(), field.getType(), int.class);
                constants.add(field.getName());
            }
        }
        due("the constants", constants, new TreeSet<>(Arrays.asList(CONSTANTS)));
        Constructor<?>[] constructors = face.getDeclaredConstructors();
        due("how many constructors", constructors.length, 1);
        due("the constructor", constructors[0].toString(), "public PairGrammars()");
        inside(face, ours);
    }

    private static void inside(Class<?> face, Set<String> ours) {
        due("at most some twelve classes", face.getDeclaredClasses().length <= 11, true);
        for (Class<?> one : face.getDeclaredClasses()) {
            due(one + " is static and not public", one.getModifiers() & (Modifier.STATIC | Modifier.PUBLIC | Modifier.PROTECTED),
                Modifier.STATIC);
            for (Method method : one.getDeclaredMethods()) {
                due(one + " has a method " + method.getName(), ours.contains(method.getName()), false);
                due(one + " has a public method", Modifier.isPublic(method.getModifiers()), false);
            }
            for (Field field : one.getDeclaredFields()) {
                int modifiers = field.getModifiers();
                due(one + "." + field.getName() + " is not static, or final", Modifier.isStatic(modifiers) && !Modifier.isFinal(modifiers),
                    false);
            }
        }
    }

    /** What LANGUAGE.md says of how large a class and a method may be, as far as reflection tells it. */
    private static void sizes(Class<?> one) {
        int fields = 0;
        for (Field field : one.getDeclaredFields()) {
            fields += Modifier.isStatic(field.getModifiers()) ? 0 : 1;
        }
        due(one + " has at most some twenty fields", fields <= 20, true);
        for (Method method : one.getDeclaredMethods()) {
            due(one + "." + method.getName() + " takes at most seven parameters", method.getParameterCount() <= 7, true);
        }
        for (Class<?> inner : one.getDeclaredClasses()) {
            sizes(inner);
        }
    }

    /** A method's body ends at the brace that stands as far right as its header. */
    private static void methodLengths(String code) {
        Matcher method = Pattern.compile("(?m)^( +)[\\w\\[\\] ]+\\([^()\n]*\\) \\{\n((?:.*\n)*?)\\1\\}\n").matcher(code);
        int methods = 0;
        while (method.find()) {
            due("short: " + method.group().split("\n")[0].trim(), method.group(2).split("\n").length <= 60, true);
            methods++;
        }
        due("methods are found in the source", methods > METHODS.length, true);
    }

    private static void source(Path file) throws IOException {
        String code = Files.readString(file).replaceAll("(?s)/\\*.*?\\*/", "").replaceAll("//[^\n]*", "");
        for (String unwanted : UNWANTED) {
            Matcher found = Pattern.compile(unwanted).matcher(code);
            due("the source has " + unwanted, found.find(), false);
        }
        Matcher imports = Pattern.compile("import [^;]*;").matcher(code);
        while (imports.find()) {
            due("an import", imports.group(), "import java.util.Arrays;");
        }
        due("a package line", code.contains("package "), false);
        methodLengths(code);
    }

    public static void main(String[] args) throws IOException {
        face();
        sizes(PairGrammars.class);
        source(Path.of(args.length > 0 ? args[0] : "src/main/java/PairGrammars.java"));
        System.out.println("the face and the source: " + wrong + " wrong");
        if (wrong != 0) {
            System.exit(1);
        }
    }
}
