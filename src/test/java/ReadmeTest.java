import java.io.IOException;
import java.lang.reflect.Method;
import java.lang.reflect.Modifier;
import java.nio.charset.StandardCharsets;
import java.nio.file.Files;
import java.nio.file.Path;
import java.util.List;
import java.util.Set;
import java.util.TreeSet;
import java.util.regex.Matcher;
import java.util.regex.Pattern;

/** Every call that README.md shows answers what stands behind it there, and README.md names every call of the face. */
public final class ReadmeTest {
    private static final Due DUE = new Due("ReadmeTest");
    private static final String MADE = "CupDraws x = new CupDraws();";
    // A call, and behind it the answer, with or without a colon and words.
    private static final Pattern CALL = Pattern.compile("x\\.(\\w+)\\(([^)]*)\\);\\s*// (-?\\d+|[A-Z]+)(:.*)?");
    private static final Pattern ROW = Pattern.compile("\\| `(\\w+)\\(.*");
    private static final int MOST_CALLS = 512;

    private final Set<String> shown = new TreeSet<>();
    private final Set<String> inTable = new TreeSet<>();
    private final Set<String> refusals = new TreeSet<>();
    private CupDraws x;
    private int asked;

    public static void main(String[] args) throws Exception {
        ReadmeTest test = new ReadmeTest();
        test.read(Files.readAllLines(Path.of("README.md"), StandardCharsets.UTF_8));
        for (Method method : CupDraws.class.getDeclaredMethods()) {
            if (Modifier.isPublic(method.getModifiers())) {
                String name = method.getName();
                DUE.is("shown is " + name, test.shown.contains(name) ? 1 : 0, 1);
                DUE.is("in the table is " + name, test.inTable.contains(name) ? 1 : 0, 1);
            }
        }
        for (String refusal : new String[] {"UNKNOWN", "OUTSIDE", "STATE"}) {
            DUE.is("shown is " + refusal, test.refusals.contains(refusal) ? 1 : 0, 1);
        }
        DUE.end();
    }

    private void read(List<String> lines) throws Exception {
        boolean inside = false;
        for (String line : lines) {
            if (line.startsWith("```")) {
                inside = line.equals("```java");
            } else if (inside) {
                readShown(line);
            }
            Matcher row = ROW.matcher(line);
            if (row.matches()) {
                inTable.add(row.group(1));
            }
        }
        DUE.is("the last part shown ends", inside ? 1 : 0, 0);
    }

    private void readShown(String line) throws Exception {
        if (line.equals(MADE)) {
            x = new CupDraws();
            asked = 0;
            return;
        }
        Matcher call = CALL.matcher(line);
        boolean fine = call.matches() && x != null;
        DUE.is("a call with its answer is: " + line, fine ? 1 : 0, 1);
        if (fine) {
            asked++;
            DUE.is("calls of one object at " + line, asked <= MOST_CALLS ? 1 : 0, 1);
            shown.add(call.group(1));
            refusals.add(call.group(3));
            DUE.is(line, answer(call.group(1), call.group(2)), number(call.group(3)));
        }
    }

    private long answer(String name, String told) throws Exception {
        String[] parts = told.isEmpty() ? new String[0] : told.split(", ");
        for (Method method : CupDraws.class.getDeclaredMethods()) {
            Class<?>[] kinds = method.getParameterTypes();
            if (method.getName().equals(name) && Modifier.isPublic(method.getModifiers())
                    && kinds.length == parts.length) {
                Object[] given = new Object[parts.length];
                for (int k = 0; k < parts.length; k++) {
                    given[k] = kinds[k] == boolean.class ? truth(parts[k]) : (Object) (int) number(parts[k]);
                }
                return ((Number) method.invoke(x, given)).longValue();
            }
        }
        throw new IOException("there is no call " + name + " of " + parts.length);
    }

    private static Object truth(String told) throws IOException {
        if (!told.equals("true") && !told.equals("false")) {
            throw new IOException("neither true nor false: " + told);
        }
        return told.equals("true");
    }

    private static long number(String told) throws ReflectiveOperationException {
        boolean named = Character.isUpperCase(told.charAt(0));
        return named ? CupDraws.class.getField(told).getInt(null) : Long.parseLong(told);
    }
}
