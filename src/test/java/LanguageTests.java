import java.lang.management.ManagementFactory;
import java.lang.reflect.Array;
import java.lang.reflect.Field;
import java.lang.reflect.Method;
import java.lang.reflect.Modifier;
import java.nio.file.Files;
import java.nio.file.Path;
import java.util.IdentityHashMap;
import java.util.List;
import java.util.Set;
import java.util.TreeSet;
import java.util.regex.Matcher;
import java.util.regex.Pattern;

/** The rules of LANGUAGE.md that can be seen in the source and in the class, and the room that a run takes. */
public final class LanguageTests {
    private static final String FACE = "alive(int) asked() at(int,int,int,int) average(int) barred(int,int,int) "
            + "beside(int,int) board(int,int,int) broken(int) copy(int,int,int,int,int) count(int) digest() drop(int) "
            + "fault(int) finding() findings(int) hangs(int) holes(int,int) in(int,int,int,int) lay(int,int,int) "
            + "ledBack(int,int) line(int,int,int) lower() many() mark(int,int) mean(int,boolean) meets(int,int,int) "
            + "move(int,int,int) net(int,int) place(int,int,int,int,boolean) point(int,int,int,boolean) "
            + "points(int,int) put(int,int,int) rim(int,int) rings(int,int) row(int,int) same(int,int,int) "
            + "shape(int,int) tear(int) text(int,int) told(int,int) upper() weighed(int,int,int) "
            + "weighs(int,int,int,int) words(int,int)";
    private static final List<String> LONGS = List.of("many", "upper", "lower", "digest");
    private static final List<String> CONSTANTS = List.of("BAD", "FULL", "FINDING", "STATE", "SPENT", "NONE");
    private static int wrong = 0;

    public static void main(String[] args) throws Exception {
        source(Files.readString(Path.of("src/main/java/SelfShapes.java")));
        face();
        classesInside();
        roomOfAnObject();
        roomOfCalls();
        System.out.println(wrong == 0 ? "the rules are kept" : wrong + " rules are broken");
        if (wrong != 0) {
            System.exit(1);
        }
    }

    private static void rule(boolean kept, String what) {
        if (!kept) {
            wrong++;
            System.out.println("broken: " + what);
        }
    }

    private static void source(String text) {
        rule(text.chars().allMatch(c -> c < 128), "signs up to 127");
        String code = text.replaceAll("(?s)/\\*.*?\\*/", "").replaceAll("//[^\n]*", "");
        Set<String> imports = Set.of("java.util.Arrays", "java.util.ArrayList", "java.util.List",
                "java.util.Iterator");
        Matcher imported = Pattern.compile("import\\s+([^;]+);").matcher(code);
        while (imported.find()) {
            rule(imports.contains(imported.group(1).trim()), "import " + imported.group(1));
        }
        rule(!code.contains("package "), "no package line");
        for (String word : List.of("throw", "throws", "try", "catch", "finally", "synchronized", "assert", "volatile",
                "transient", "native", "hashCode", "getClass", "Thread", "Object", "Random", "var", "double", "float")) {
            rule(!Pattern.compile("\\b" + word + "\\b").matcher(code).find(), "no " + word);
        }
        rule(!code.contains("->") && !code.contains("::"), "no lambda, no method reference");
        rule(!Pattern.compile("\\w+Exact\\b").matcher(code).find(), "nothing whose name ends in Exact");
        rule(!Pattern.compile("while\\s*\\(\\s*true|for\\s*\\(\\s*;").matcher(code).find(), "every loop has an end");
        Matcher called = Pattern.compile("\\b(Arrays|Math|Integer|Long|System)\\.(\\w+)").matcher(code);
        Set<String> allowed = Set.of("Arrays.fill", "Math.max", "Math.min", "Math.abs", "Integer.bitCount",
                "Long.bitCount", "System.arraycopy");
        while (called.find()) {
            rule(allowed.contains(called.group()), "library: " + called.group());
        }
        methods(code);
    }

    private static void methods(String code) {
        String[] lines = code.split("\n");
        int classes = 0;
        for (int i = 0; i < lines.length; i++) {
            classes += Pattern.compile("\\b(class|record|enum|interface) \\w+").matcher(lines[i]).find() ? 1 : 0;
            if (lines[i].matches("^(    |        )\\S.*\\)\\s*\\{\\s*$")) {
                String indent = lines[i].replaceAll("\\S.*", "");
                int end = i;
                while (!lines[end].equals(indent + "}")) {
                    end++;
                }
                rule(end - i <= 60, "a short method: " + lines[i].trim());
                String told = lines[i].substring(lines[i].indexOf('('));
                rule(told.chars().filter(c -> c == ',').count() < 7, "seven parameters: " + lines[i].trim());
                recursion(lines, i, end);
            }
        }
        rule(classes <= 12, "twelve classes, not " + classes);
    }

    /** A method that calls itself is private, and carries its depth as an argument. */
    private static void recursion(String[] lines, int begin, int end) {
        Matcher name = Pattern.compile("(\\w+)\\(").matcher(lines[begin]);
        Pattern called = Pattern.compile(name.find() ? "(?<![.\\w])" + name.group(1) + "\\(([^;]*)" : "$^");
        for (int i = begin + 1; i < end; i++) {
            Matcher self = called.matcher(lines[i]);
            if (self.find()) {
                rule(lines[begin].trim().startsWith("private"), "a private one calls itself: " + lines[begin].trim());
                rule(self.group(1).contains("left - 1"), "it carries its depth: " + lines[i].trim());
            }
        }
    }

    private static String signature(Method m) {
        StringBuilder told = new StringBuilder(m.getName()).append('(');
        for (Class<?> c : m.getParameterTypes()) {
            told.append(told.charAt(told.length() - 1) == '(' ? "" : ",").append(c.getName());
        }
        return told.append(')').toString();
    }

    private static void face() {
        Class<?> c = SelfShapes.class;
        rule(Modifier.isPublic(c.getModifiers()) && Modifier.isFinal(c.getModifiers()), "public and final");
        rule(c.getDeclaredConstructors().length == 1 && c.getConstructors().length == 1, "one constructor, public");
        Set<String> open = new TreeSet<>();
        for (Method m : c.getDeclaredMethods()) {
            if (!Modifier.isPrivate(m.getModifiers())) {
                open.add(signature(m));
                rule(m.getReturnType() == (LONGS.contains(m.getName()) ? long.class : int.class), "type: " + m);
            }
        }
        rule(String.join(" ", open).equals(FACE), "the face: " + open);
        for (Field f : c.getDeclaredFields()) {
            boolean constant = CONSTANTS.contains(f.getName());
            rule(Modifier.isPublic(f.getModifiers()) == constant, "public: " + f);
            rule(constant || Modifier.isPrivate(f.getModifiers()), "private: " + f);
        }
    }

    private static void classesInside() {
        Set<String> names = new TreeSet<>();
        for (Method m : SelfShapes.class.getMethods()) {
            names.add(m.getName());
        }
        fieldsAndMethods(SelfShapes.class, names);
        for (Class<?> c : SelfShapes.class.getDeclaredClasses()) {
            rule(Modifier.isStatic(c.getModifiers()), "static: " + c);
            rule(!Modifier.isPublic(c.getModifiers()) && !Modifier.isProtected(c.getModifiers()), "not public: " + c);
            rule(c.getDeclaredClasses().length == 0, "no class deeper inside: " + c);
            fieldsAndMethods(c, names);
        }
    }

    private static void fieldsAndMethods(Class<?> c, Set<String> names) {
        int fields = 0;
        for (Field f : c.getDeclaredFields()) {
            if (Modifier.isStatic(f.getModifiers())) {
                rule(Modifier.isFinal(f.getModifiers()), "static and final: " + f);
            } else {
                fields++;
            }
        }
        rule(fields <= 20, "twenty fields: " + c + " has " + fields);
        for (Method m : c.getDeclaredMethods()) {
            boolean facing = c == SelfShapes.class && Modifier.isPublic(m.getModifiers());
            rule(facing || !names.contains(m.getName()), "no other method bears a public one's name: " + m);
        }
    }

    private static void roomOfAnObject() throws Exception {
        IdentityHashMap<Object, Boolean> seen = new IdentityHashMap<>();
        long elements = elementsOf(new SelfShapes(), seen);
        System.out.println("a new object: " + seen.size() + " objects and arrays, " + elements + " fields and elements");
        rule(seen.size() < 300 && elements < 80000, "an object's room");
    }

    private static long elementsOf(Object o, IdentityHashMap<Object, Boolean> seen) throws Exception {
        if (o == null || seen.put(o, true) != null) {
            return 0;
        }
        long count = 0;
        if (o.getClass().isArray()) {
            int length = Array.getLength(o);
            count = length;
            for (int i = 0; !o.getClass().getComponentType().isPrimitive() && i < length; i++) {
                count += elementsOf(Array.get(o, i), seen);
            }
            return count;
        }
        for (Field f : o.getClass().getDeclaredFields()) {
            if (!Modifier.isStatic(f.getModifiers())) {
                f.setAccessible(true);
                count += 1 + (f.getType().isPrimitive() ? 0 : elementsOf(f.get(o), seen));
            }
        }
        return count;
    }

    /** All dear calls, many times over: they make nothing. */
    private static void roomOfCalls() {
        com.sun.management.ThreadMXBean bean = (com.sun.management.ThreadMXBean) ManagementFactory.getThreadMXBean();
        SelfShapes x = new SelfShapes();
        String told = "2/a76/a-6-6/a-9-9/a-1-6/a82/a-77";
        dearCalls(x, told);
        long before = bean.getThreadAllocatedBytes(Thread.currentThread().getId());
        for (int i = 0; i < 30; i++) {
            dearCalls(x, told);
        }
        long made = bean.getThreadAllocatedBytes(Thread.currentThread().getId()) - before;
        rule(made < 100000, "calls make nothing, not " + made + " bytes");
    }

    private static void dearCalls(SelfShapes x, String told) {
        x.text(0, told.length());
        for (int i = 0; i < told.length(); i++) {
            x.put(0, i, told.charAt(i));
        }
        x.shape(0, 0);
        x.row(0, 6);
        x.copy(0, 0, 0, 0, 6);
        for (int i = 0; i < 6; i++) {
            x.lay(0, i, 1);
        }
        x.weighed(1, 0, 0);
        x.barred(2, 0, 0);
        x.points(0, 5);
        x.at(0, 5, 1, 1);
        x.board(0, 5, 1);
        x.broken(0);
        x.words(2, 6);
        x.point(0, 0, 6, true);
        x.place(0, 0, 2, 4, true);
        x.alive(0);
        x.hangs(0);
        x.net(0, 3);
        x.rings(0, 3);
        x.in(0, -11, 57, 11);
        x.rim(0, 6);
        x.mean(1, true);
        x.weighs(1, 5, 1, 1);
        x.holes(0, 1);
        x.line(0, 1, 0);
        x.same(0, 2, 4);
        x.digest();
    }
}
