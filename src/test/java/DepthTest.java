import java.io.IOException;
import java.nio.charset.StandardCharsets;
import java.nio.file.Files;
import java.nio.file.Path;
import java.util.ArrayList;
import java.util.HashMap;
import java.util.LinkedHashMap;
import java.util.List;
import java.util.Map;
import java.util.Set;
import java.util.TreeSet;
import java.util.regex.Matcher;
import java.util.regex.Pattern;

/**
 * How deep calls go (LANGUAGE.md 8 and 11), by the source's text: methods that call one another in a ring
 * count as one, and each of these must carry its depth as an argument.
 */
public final class DepthTest {
    private static final Pattern CLASS = Pattern.compile("^ {4}private static final class (\\w+) .*");
    private static final Pattern HEAD = Pattern.compile("^( {4}| {8})(?:(?:public|private|static) )*(?:[\\w\\[\\]]+ )?(\\w+)\\(([^)]*)\\) \\{$");
    private static final Pattern USE = Pattern.compile("(\\w+\\.)?\\b(\\w+)\\(");
    private static final int DEEPEST = 8;

    private final Map<String, String> bodies = new LinkedHashMap<>();
    private final Map<String, String> parameters = new HashMap<>();
    private final Map<String, Set<String>> called = new HashMap<>();
    private final Map<String, Set<String>> reached = new HashMap<>();

    private void cut(String source) {
        String inside = "";
        String method = "";
        for (String line : source.split("\n")) {
            Matcher c = CLASS.matcher(line);
            if (c.matches()) inside = c.group(1);
            Matcher h = HEAD.matcher(line);
            if (h.matches()) {
                method = (h.group(1).length() == 4 ? "CuckooLodge" : inside) + "." + h.group(2);
                parameters.put(method, h.group(3));
            } else if (!method.isEmpty()) {
                bodies.merge(method, line + "\n", String::concat);
            }
        }
    }

    // One class of these names its methods as another: without knowing which is meant, both are taken.
    private void findCalls() {
        for (String method : bodies.keySet()) {
            Set<String> uses = new TreeSet<>();
            Matcher u = USE.matcher(bodies.get(method));
            while (u.find()) {
                for (String other : bodies.keySet()) {
                    boolean canBe = u.group(1) != null || classOf(other).equals(classOf(method));
                    if (canBe && other.endsWith("." + u.group(2))) uses.add(other);
                }
            }
            called.put(method, uses);
        }
        for (String method : bodies.keySet()) {
            Set<String> all = new TreeSet<>();
            reach(method, all);
            reached.put(method, all);
        }
    }

    private static String classOf(String method) {
        return method.substring(0, method.indexOf('.'));
    }

    private void reach(String from, Set<String> all) {
        for (String next : called.get(from)) {
            if (all.add(next)) reach(next, all);
        }
    }

    private boolean inRing(String a, String b) {
        return reached.get(a).contains(b) && reached.get(b).contains(a);
    }

    private List<String> deepest(String method, Map<String, List<String>> known) {
        if (known.containsKey(method)) return known.get(method);
        List<String> best = List.of();
        for (String member : bodies.keySet()) {
            if (!member.equals(method) && !inRing(member, method)) continue;
            for (String next : called.get(member)) {
                if (next.equals(method) || inRing(next, method)) continue;
                List<String> below = deepest(next, known);
                if (below.size() > best.size()) best = below;
            }
        }
        List<String> way = new ArrayList<>(List.of(method));
        way.addAll(best);
        known.put(method, way);
        return way;
    }

    private void test() {
        Map<String, List<String>> known = new HashMap<>();
        int most = 0;
        for (String method : bodies.keySet()) {
            List<String> way = deepest(method, known);
            most = Math.max(most, way.size());
            Calls.due("at most eight deep: " + way, way.size() <= DEEPEST, true);
            if (reached.get(method).contains(method)) {
                Calls.due("carries its depth: " + method, parameters.get(method).matches(".*\\bint (open|left)\\b.*"), true);
            }
        }
        Calls.due("calls were found", most > 4, true);
        Calls.due("rings were found", inRing("Grammar.readTest", "Grammar.readPart"), true);
    }

    public static void main(String[] args) throws IOException {
        String source = Files.readString(Path.of("src/main/java/CuckooLodge.java"), StandardCharsets.US_ASCII);
        DepthTest t = new DepthTest();
        t.cut(source.replaceAll("(?s)/\\*.*?\\*/", "").replaceAll("//[^\n]*", ""));
        t.findCalls();
        t.test();
        Calls.close("DepthTest");
    }
}
