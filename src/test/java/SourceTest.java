import java.io.IOException;
import java.nio.charset.StandardCharsets;
import java.nio.file.Files;
import java.nio.file.Path;
import java.util.ArrayList;
import java.util.HashMap;
import java.util.HashSet;
import java.util.List;
import java.util.Map;
import java.util.Set;
import java.util.TreeMap;
import java.util.regex.Matcher;
import java.util.regex.Pattern;

/**
 * Rule 11 of ../shared/LANGUAGE.md (how long, how many, how deep), the signs of the source, and the order of the
 * public face. Methods are found by their indentation, calls by the name before the dot.
 */
public final class SourceTest {
    private static final Due DUE = new Due("SourceTest");
    private static final int MOST_LINES = 60, MOST_FIELDS = 20, MOST_PARAMETERS = 7, MOST_DEEP = 8;
    private static final Pattern CLASS = Pattern.compile("(    )?(?:public|private static) final class (\\w+) \\{");
    private static final Pattern METHOD =
            Pattern.compile("((?:    )+)(?!return|new)(?:[\\w\\[\\]]+ )*(\\w+)\\((.*)\\) \\{");
    private static final Pattern FIELD =
            Pattern.compile("((?:    )+)(?:private )?(?:final )?[\\w\\[\\]]+ \\w+( = .*)?;");
    private static final Pattern CALL = Pattern.compile("(?:(\\w+)\\.)?\\b(\\w+)\\(");
    private static final String[] FACE = {"---- players", "players", "chance", "apart", "---- the cup", "cup", "put",
        "at", "won", "open", "match", "---- chances", "reach", "meet", "can", "---- draws", "draws", "draw", "lay",
        "like", "best", "wins", "mean", "first", "count"};

    private final Map<String, String> classOfName = new HashMap<>();
    private final Map<String, List<String>> bodies = new TreeMap<>();
    private final Map<String, Integer> fields = new TreeMap<>();
    private final List<String> face = new ArrayList<>();

    public static void main(String[] args) throws IOException {
        SourceTest test = new SourceTest();
        List<String> lines = Files.readAllLines(Path.of("src/main/java/CupDraws.java"), StandardCharsets.ISO_8859_1);
        test.read(lines);
        test.lengths();
        test.depths();
        DUE.is("classes", test.fields.size(), 4);
        for (String name : test.fields.keySet()) {
            DUE.is("fields of " + name, test.fields.get(name) <= MOST_FIELDS ? 1 : 0, 1);
        }
        DUE.is("the public face in order: " + test.face, test.face.equals(List.of(FACE)) ? 1 : 0, 1);
        DUE.end();
    }

    private SourceTest() {
        classOfName.put("roster", "Roster");
        classOfName.put("bracket", "Bracket");
        classOfName.put("trial", "Bracket");
        classOfName.put("list", "DrawList");
    }

    private void read(List<String> lines) {
        String inside = "";
        String end = null;
        List<String> body = null;
        for (String line : lines) {
            DUE.is("signs 1 to 127 in: " + line, line.chars().allMatch(c -> c >= 1 && c <= 127) ? 1 : 0, 1);
            if (body != null) {
                body.add(line);
                body = line.equals(end) ? null : body;
                continue;
            }
            Matcher type = CLASS.matcher(line);
            Matcher method = METHOD.matcher(line);
            if (type.matches()) {
                inside = type.group(2);
                fields.put(inside, 0);
            } else if (method.matches()) {
                body = new ArrayList<>();
                bodies.put((method.group(1).length() == 4 ? "CupDraws" : inside) + "." + method.group(2), body);
                end = method.group(1) + "}";
                int parameters = method.group(3).split(",").length;
                DUE.is("parameters of " + line, parameters <= MOST_PARAMETERS ? 1 : 0, 1);
            } else if (FIELD.matcher(line).matches()) {
                fields.merge(inside, 1, Integer::sum);
            }
            readFace(line, method);
        }
    }

    private void readFace(String line, Matcher method) {
        if (line.startsWith("    // ----")) {
            face.add(line.substring("    // ".length()));
        } else if (line.startsWith("    public ") && method.matches() && !method.group(2).equals("CupDraws")) {
            face.add(method.group(2));
        }
    }

    private void lengths() {
        DUE.is("methods are found", bodies.size() > 60 ? 1 : 0, 1);
        for (String name : bodies.keySet()) {
            int lines = bodies.get(name).size();
            DUE.is("lines of " + name + ": " + lines, lines <= MOST_LINES ? 1 : 0, 1);
        }
    }

    private void depths() {
        for (String name : bodies.keySet()) {
            int depth = depth(name, new HashSet<>());
            DUE.is("calls from " + name + " go deep: " + depth, depth <= MOST_DEEP ? 1 : 0, 1);
        }
    }

    // A call that stands open already is recursion, which the rule counts apart.
    private int depth(String name, Set<String> open) {
        if (!open.add(name)) {
            return 0;
        }
        int below = 0;
        for (String line : bodies.get(name)) {
            Matcher call = CALL.matcher(line);
            while (call.find()) {
                String target = target(name.substring(0, name.indexOf('.')), call.group(1), call.group(2));
                below = Math.max(below, target == null ? 0 : depth(target, open));
            }
        }
        open.remove(name);
        return 1 + below;
    }

    private String target(String inside, String receiver, String called) {
        if (receiver != null) {
            String target = classOfName.get(receiver) + "." + called;
            return bodies.containsKey(target) ? target : null;
        }
        if (bodies.containsKey(inside + "." + called)) {
            return inside + "." + called;
        }
        return bodies.containsKey("CupDraws." + called) ? "CupDraws." + called : null;
    }
}
