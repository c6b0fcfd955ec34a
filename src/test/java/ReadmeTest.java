import java.io.IOException;
import java.lang.reflect.Method;
import java.nio.charset.StandardCharsets;
import java.nio.file.Files;
import java.nio.file.Path;
import java.util.Arrays;
import java.util.regex.Matcher;
import java.util.regex.Pattern;

/** README.md: its example is played, and each call of the face is named. */
public final class ReadmeTest {
    private static final Pattern TEXT = Pattern.compile("\"([^\"]*)\"");
    private static final Pattern ROWS = Pattern.compile("^put\\(x, ([\\d, ]+)\\);$");
    private static final Pattern CALL = Pattern.compile("^x\\.(\\w+)\\(([-\\d, ]*)\\); +// (-?\\d+|true|false)\\b.*$");

    private static int[] numbers(String list) {
        return list.isEmpty() ? new int[0] : Arrays.stream(list.split(", ")).mapToInt(Integer::parseInt).toArray();
    }

    private static long answer(CuckooLodge x, String name, int[] args) throws ReflectiveOperationException {
        Class<?>[] kinds = new Class<?>[args.length];
        Arrays.fill(kinds, int.class);
        Object[] boxed = Arrays.stream(args).boxed().toArray();
        Object got = CuckooLodge.class.getMethod(name, kinds).invoke(x, boxed);
        return got instanceof Boolean b ? (b ? 1 : 0) : (Integer) got;
    }

    private static long due(String told) {
        return told.equals("true") ? 1 : told.equals("false") ? 0 : Long.parseLong(told);
    }

    private static void example(String block) throws ReflectiveOperationException {
        CuckooLodge x = new CuckooLodge();
        StringBuilder text = new StringBuilder();
        Matcher piece = TEXT.matcher(block);
        while (piece.find()) text.append(piece.group(1));
        Calls.feed(x, text.chars().toArray());
        int calls = 0;
        for (String line : block.split("\n")) {
            Matcher rows = ROWS.matcher(line);
            if (rows.matches()) Calls.feed(x, numbers(rows.group(1)));
            Matcher call = CALL.matcher(line);
            boolean asks = call.matches();
            Calls.due("a line that is understood: " + line, asks || !line.startsWith("x."), true);
            if (!asks) continue;
            calls++;
            Calls.due(line, answer(x, call.group(1), numbers(call.group(2))), due(call.group(3)));
        }
        Calls.due("calls are played", calls > 20, true);
    }

    public static void main(String[] args) throws IOException, ReflectiveOperationException {
        String readme = Files.readString(Path.of("README.md"), StandardCharsets.UTF_8);
        int from = readme.indexOf("CuckooLodge x = new CuckooLodge();");
        int to = readme.indexOf("```", Math.max(from, 0));
        Calls.due("there is an example", from >= 0 && to > from, true);
        if (from >= 0 && to > from) example(readme.substring(from, to));
        for (Method m : CuckooLodge.class.getMethods()) {
            if (m.getDeclaringClass() != CuckooLodge.class) continue;
            Calls.due("README names " + m.getName(), readme.contains("`" + m.getName() + "`"), true);
        }
        Calls.close("ReadmeTest");
    }
}
