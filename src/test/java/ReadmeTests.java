import java.lang.reflect.Method;
import java.nio.file.Files;
import java.nio.file.Path;
import java.util.Map;
import java.util.TreeMap;
import java.util.regex.Matcher;
import java.util.regex.Pattern;

/** The calls of README.md, in their order on one object: each answers the number that stands behind it. */
public final class ReadmeTests {
    private static final Pattern CALL = Pattern.compile("x\\.(\\w+)\\(([^)]*)\\);\\s*(?://\\s*(-?\\d+)\\b.*)?");
    private static final Pattern TELL = Pattern.compile("tell\\(x, (\\d), \"([^\"]*)\"\\);");
    private static final Map<String, Method> FACE = new TreeMap<>();
    private static SelfShapes x = new SelfShapes();
    private static int tried = 0;
    private static int wrong = 0;

    public static void main(String[] args) throws Exception {
        for (Method m : SelfShapes.class.getMethods()) {
            FACE.put(m.getName(), m);
        }
        for (String line : Files.readString(Path.of("README.md")).split("\n")) {
            tryLine(line);
        }
        if (tried < 40) {
            wrong++;
            System.out.println("README.md shows " + tried + " calls only");
        }
        System.out.println(tried + " calls of README.md, " + wrong + " wrong");
        if (wrong != 0) {
            System.exit(1);
        }
    }

    private static void tryLine(String line) throws Exception {
        Matcher told = TELL.matcher(line);
        Matcher call = CALL.matcher(line);
        if (told.matches()) {
            tell(Integer.parseInt(told.group(1)), told.group(2));
        } else if (call.matches()) {
            tryCall(line, call.group(1), call.group(2), call.group(3));
        } else if (line.startsWith("x.")) {
            wrong++;
            System.out.println("not understood: " + line);
        }
    }

    private static void tell(int t, String moves) {
        x.text(t, moves.length());
        for (int i = 0; i < moves.length(); i++) {
            x.put(t, i, moves.charAt(i));
        }
    }

    private static void tryCall(String line, String name, String told, String due) throws Exception {
        Method m = FACE.get(name);
        String[] parts = told.isEmpty() ? new String[0] : told.split(", ");
        if (m == null || due == null || m.getParameterCount() != parts.length) {
            wrong++;
            System.out.println("not a call with its answer: " + line);
            return;
        }
        Object[] given = new Object[parts.length];
        for (int i = 0; i < parts.length; i++) {
            boolean truth = m.getParameterTypes()[i] == boolean.class;
            given[i] = truth ? (Object) Boolean.valueOf(parts[i]) : (Object) Integer.valueOf(parts[i]);
        }
        long got = ((Number) m.invoke(x, given)).longValue();
        tried++;
        if (got != Long.parseLong(due)) {
            wrong++;
            System.out.println("answered " + got + ": " + line);
        }
    }
}
