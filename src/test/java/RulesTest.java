import java.io.IOException;
import java.lang.reflect.Constructor;
import java.lang.reflect.Field;
import java.lang.reflect.Method;
import java.lang.reflect.Modifier;
import java.nio.file.Files;
import java.nio.file.Path;
import java.util.Arrays;
import java.util.Set;
import java.util.TreeSet;
import java.util.regex.Matcher;
import java.util.regex.Pattern;

/** The public face is the document's, and what can be seen in the source keeps to the language's rules. */
public final class RulesTest {
    private static final Due DUE = new Due("RulesTest");
    private static final Set<String> FACE = new TreeSet<>(Arrays.asList("int players(int)",
        "int chance(int, int, int)", "int apart(int, int, int)", "int cup(int)", "int put(int, int)", "int at(int)",
        "int won(int, int)", "int open(int)", "int match(int, int)", "long reach(int, int, boolean)",
        "long meet(int, int, int, boolean)", "int can(int)", "int draws()", "int draw(int, int)", "int lay(int)",
        "int like()", "int best(int, boolean)", "long wins(int, int, boolean)", "long mean(int, boolean)",
        "int first(int, int, int)", "int count(int)"));
    private static final String[] NOT_IN_SOURCE = {"\\bthrow\\b", "\\btry\\b", "\\bcatch\\b", "\\bsynchronized\\b",
        "\\bassert\\b", "->", "::", "Exact\\b", "\\bequals\\b", "\\bhashCode\\b", "\\btoString\\b", "\\bdouble\\b",
        "\\bfloat\\b", "\\bSystem\\.(?!arraycopy)", "\\bpackage\\b"};

    public static void main(String[] args) throws IOException {
        constants();
        methods();
        hidden();
        classesInside();
        source();
        DUE.end();
    }

    private static void constants() {
        DUE.is("UNKNOWN", CupDraws.UNKNOWN, -1);
        DUE.is("OUTSIDE", CupDraws.OUTSIDE, -2);
        DUE.is("STATE", CupDraws.STATE, -3);
        DUE.is("NONE", CupDraws.NONE, -9);
        for (String name : new String[] {"UNKNOWN", "OUTSIDE", "STATE", "NONE"}) {
            DUE.is(name + " is a public constant int", isPublicConstant(name) ? 1 : 0, 1);
        }
    }

    private static boolean isPublicConstant(String name) {
        for (Field field : CupDraws.class.getFields()) {
            int modifiers = field.getModifiers();
            if (field.getName().equals(name)) {
                return field.getType() == int.class && Modifier.isStatic(modifiers) && Modifier.isFinal(modifiers);
            }
        }
        return false;
    }

    private static void methods() {
        Set<String> found = new TreeSet<>();
        for (Method method : CupDraws.class.getDeclaredMethods()) {
            if (Modifier.isPublic(method.getModifiers())) {
                String parameters = Arrays.toString(method.getParameterTypes());
                DUE.is(method.getName() + " is an object's", Modifier.isStatic(method.getModifiers()) ? 1 : 0, 0);
                found.add(method.getReturnType() + " " + method.getName() + "("
                        + parameters.substring(1, parameters.length() - 1) + ")");
            }
        }
        DUE.is("the methods " + found, found.equals(FACE) ? 1 : 0, 1);
        DUE.is("the class is final", Modifier.isFinal(CupDraws.class.getModifiers()) ? 1 : 0, 1);
        DUE.is("the class is public", Modifier.isPublic(CupDraws.class.getModifiers()) ? 1 : 0, 1);
        DUE.is("constructors", CupDraws.class.getConstructors().length, 1);
        DUE.is("its parameters", CupDraws.class.getConstructors()[0].getParameterCount(), 0);
    }

    private static void hidden() {
        int shown = 0;
        for (Field field : CupDraws.class.getDeclaredFields()) {
            shown += Modifier.isPrivate(field.getModifiers()) ? 0 : 1;
            // Rule 5: no other state than an object's own.
            DUE.is(field + " is final, if it is the class's", isStaticAndChanges(field) ? 1 : 0, 0);
        }
        DUE.is("fields that are not private", shown, 4);
        for (Method method : CupDraws.class.getDeclaredMethods()) {
            int modifiers = method.getModifiers();
            boolean fine = Modifier.isPublic(modifiers) || Modifier.isPrivate(modifiers) || method.isSynthetic();
            DUE.is(method.getName() + " is public or private", fine ? 1 : 0, 1);
        }
        for (Constructor<?> constructor : CupDraws.class.getDeclaredConstructors()) {
            DUE.is("a public constructor", Modifier.isPublic(constructor.getModifiers()) ? 1 : 0, 1);
        }
    }

    private static boolean isStaticAndChanges(Field field) {
        return Modifier.isStatic(field.getModifiers()) && !Modifier.isFinal(field.getModifiers());
    }

    private static void classesInside() {
        Class<?>[] inside = CupDraws.class.getDeclaredClasses();
        DUE.is("at most twelve classes", inside.length <= 12 ? 1 : 0, 1);
        for (Class<?> one : inside) {
            DUE.is(one + " is static", Modifier.isStatic(one.getModifiers()) ? 1 : 0, 1);
            for (Method method : one.getDeclaredMethods()) {
                DUE.is(method + " bears no public name", isPublicName(method.getName()) ? 1 : 0, 0);
                DUE.is(method + " takes seven at most", method.getParameterCount() <= 7 ? 1 : 0, 1);
            }
        }
    }

    private static boolean isPublicName(String name) {
        for (String method : FACE) {
            if (method.contains(" " + name + "(")) {
                return true;
            }
        }
        return false;
    }

    private static void source() throws IOException {
        String text = new String(Files.readAllBytes(Path.of("src/main/java/CupDraws.java")));
        String code = text.replaceAll("(?s)/\\*.*?\\*/", "").replaceAll("//[^\n]*", "");
        for (String word : NOT_IN_SOURCE) {
            DUE.is("in the source: " + word, Pattern.compile(word).matcher(code).find() ? 1 : 0, 0);
        }
        Matcher imports = Pattern.compile("import ([^;]*);").matcher(code);
        while (imports.find()) {
            DUE.is("imports " + imports.group(1), imports.group(1).equals("java.util.Arrays") ? 1 : 0, 1);
        }
        // Nothing is made but by fields' initialisers, so that 512 calls make no object.
        Matcher made = Pattern.compile("(?m)^(.*)\\bnew\\b").matcher(code);
        while (made.find()) {
            DUE.is("made by a field: " + made.group(1), made.group(1).contains("private final") ? 1 : 0, 1);
        }
    }
}
