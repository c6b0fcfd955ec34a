import java.io.IOException;
import java.lang.reflect.Constructor;
import java.lang.reflect.Field;
import java.lang.reflect.Method;
import java.lang.reflect.Modifier;
import java.nio.charset.StandardCharsets;
import java.nio.file.Files;
import java.nio.file.Path;
import java.util.ArrayList;
import java.util.Arrays;
import java.util.List;
import java.util.TreeSet;
import java.util.regex.Matcher;
import java.util.regex.Pattern;

/** What of LANGUAGE.md shows in the source's text, in the class's face, and in calls with arguments of all kinds. */
public final class RulesTest {
    private static final String FACE = "int feed(int,int,int,int,int);boolean end(int);int lodge();int fault(int);int has(int);"
        + "int letter(int,int);int room(int,int);int lodger(int,int);int bench(int);int chain(int,int);int later(int,int);"
        + "int sleeps(int);int purse(int);int most(int);int ways(int);int turned(int);int crowd();int clear(int);int moves(int);"
        + "int odds(int);int meet();int stepped(int,int);int tells(int,int);int come(int);boolean go(int);boolean shut(int,int);"
        + "int nights(int);int chance(int);boolean undo();boolean seed(int);int kept(int,int);int image();int octet(int);"
        + "boolean on();int status(int)";

    private static String shape(Method m) {
        List<String> kinds = new ArrayList<>();
        for (Class<?> c : m.getParameterTypes()) kinds.add(c.getSimpleName());
        return m.getReturnType().getSimpleName() + " " + m.getName() + "(" + String.join(",", kinds) + ")";
    }

    private static void face() {
        TreeSet<String> open = new TreeSet<>();
        TreeSet<String> names = new TreeSet<>();
        for (Method m : CuckooLodge.class.getDeclaredMethods()) {
            if (Modifier.isPrivate(m.getModifiers())) continue;
            open.add(shape(m));
            names.add(m.getName());
            Calls.due("public, not static: " + m, Modifier.isPublic(m.getModifiers()) && !Modifier.isStatic(m.getModifiers()), true);
        }
        Calls.due("the methods of the face: " + open, open.equals(new TreeSet<>(Arrays.asList(FACE.split(";")))), true);
        Calls.due("final", Modifier.isFinal(CuckooLodge.class.getModifiers()), true);
        Calls.due("constructors", CuckooLodge.class.getDeclaredConstructors().length, 1);
        for (Constructor<?> c : CuckooLodge.class.getDeclaredConstructors()) {
            Calls.due("a public constructor without arguments", Modifier.isPublic(c.getModifiers()) && c.getParameterCount() == 0, true);
        }
        for (Field f : CuckooLodge.class.getDeclaredFields()) {
            Calls.due("private: " + f, Modifier.isPrivate(f.getModifiers()), !f.getName().equals("NONE"));
        }
        List<Class<?>> all = new ArrayList<>(Arrays.asList(CuckooLodge.class.getDeclaredClasses()));
        all.add(CuckooLodge.class);
        Calls.due("some twelve classes", all.size() <= 12, true);
        for (Class<?> c : all) classRules(c, names);
    }

    private static void classRules(Class<?> c, TreeSet<String> names) {
        if (c != CuckooLodge.class) Calls.due("static: " + c, Modifier.isStatic(c.getModifiers()), true);
        for (Method m : c.getDeclaredMethods()) {
            Calls.due("at most seven parameters: " + m, m.getParameterCount() <= 7, true);
            boolean faceName = names.contains(m.getName()) && !Modifier.isPublic(m.getModifiers());
            Calls.due("no name of the face: " + m, faceName, false);
        }
        int fields = 0;
        for (Field f : c.getDeclaredFields()) {
            if (!Modifier.isStatic(f.getModifiers())) fields++;
            else Calls.due("a static field is final: " + f, Modifier.isFinal(f.getModifiers()), true);
        }
        Calls.due("some twenty fields: " + c, fields <= 20, true);
    }

    private static void text() throws IOException {
        String source = Files.readString(Path.of("src/main/java/CuckooLodge.java"), StandardCharsets.US_ASCII);
        String bare = source.replaceAll("(?s)/\\*.*?\\*/", "").replaceAll("//[^\n]*", "").replaceAll("\"[^\"\n]*\"", "\"\"");
        String[] ruledOut = {"\\bthrow\\b", "\\btry\\b", "\\bcatch\\b", "\\bfinally\\b", "\\bsynchronized\\b", "\\bassert\\b", "->", "::",
            "\\bpackage\\b", "Exact\\b", "\\bObject\\b", "\\bhashCode\\b", "\\btoString\\b", "\\bSystem\\.(?!arraycopy\\b)",
            "\\bMap\\b", "\\bSet\\b", "\\bimport (?!java\\.util\\.Arrays;)", "\\bArrays\\.(?!fill\\b|copyOf\\b|copyOfRange\\b)", "\\bprotected\\b",
            "\\bstatic \\{", "@", "\\bwhile \\(true\\)", "\\bfor \\(;;\\)"};
        for (String s : ruledOut) {
            Matcher m = Pattern.compile(s).matcher(bare);
            Calls.due("the source has no " + s, m.find(), false);
        }
        int begun = 0;
        String[] lines = source.split("\n");
        Pattern head = Pattern.compile("^( {4}| {8})[A-Za-z].*\\) \\{$");
        for (int i = 0; i < lines.length; i++) {
            if (head.matcher(lines[i]).matches()) begun = i;
            boolean closes = lines[i].matches("^( {4}| {8})\\}$") && head.matcher(lines[begun]).matches();
            if (closes) Calls.due("line " + (begun + 1) + " begins a method of some sixty lines", i - begun < 60, true);
        }
    }

    /** No call may throw, whatever the arguments, in whatever state. */
    private static void anyArguments() throws ReflectiveOperationException {
        int[] some = {Integer.MIN_VALUE, -2, -1, 0, 1, 2, 15, 16, 31, 32, 40, 41, 254, 255, 65536, Integer.MAX_VALUE};
        String[] texts = {"", "rooms 2;", "rooms 16;lodger a has 15 0;in a;knock 100;",
            "rooms 3;bench 6;knock 90;lodger a has 0 1;lodger b has 1 2;lodger c has 2 0;lodger d has 0 2;in a;in b;in c;leaves nights/step>1;",
            "rooms 3;bench 6;knock 90;lodger a has 0 1;lodger b has 1 2;lodger c has 2 0;lodger d has 0 2;in a;in b;in c;in d;leaves nights/bench>1;"};
        for (String text : texts) {
            for (Method m : CuckooLodge.class.getMethods()) {
                if (m.getDeclaringClass() != CuckooLodge.class) continue;
                CuckooLodge x = new CuckooLodge();
                Calls.tell(x, text);
                int kinds = m.getParameterCount();
                for (int i = 0; i < (kinds == 0 ? 1 : some.length); i++) {
                    for (int j = 0; j < (kinds < 2 ? 1 : some.length); j++) {
                        Object[] args = new Object[kinds];
                        for (int k = 0; k < kinds; k++) args[k] = k == 0 ? some[i] : some[j];
                        m.invoke(x, args);
                    }
                }
                Calls.due("behind " + m.getName(), x.status(6), CuckooLodge.NONE);
            }
        }
    }

    public static void main(String[] args) throws IOException, ReflectiveOperationException {
        face();
        text();
        anyArguments();
        Calls.close("RulesTest");
    }
}
