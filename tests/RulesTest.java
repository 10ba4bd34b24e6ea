import java.lang.management.ManagementFactory;
import java.lang.reflect.Array;
import java.lang.reflect.Executable;
import java.lang.reflect.Field;
import java.lang.reflect.Method;
import java.lang.reflect.Modifier;
import java.nio.file.Files;
import java.nio.file.Path;
import java.util.IdentityHashMap;
import java.util.List;
import java.util.Map;
import java.util.TreeSet;
import java.util.regex.Matcher;
import java.util.regex.Pattern;

/** The face of the class, the rules of LANGUAGE.md that can be read off, and the room that calls take. */
public final class RulesTest {
    private static final Check CHECK = new Check("RulesTest");
    private static final Path SOURCE = Path.of("src/main/java/CompanyCourt.java");
    private static final Path DOC = Path.of("../shared/DOC.md");

    public static void main(String[] args) throws Exception {
        face();
        faceToTheLetter();
        members();
        words();
        Bytecode bytecode = new Bytecode(CompanyCourt.class);
        library(bytecode);
        callsDeep(bytecode);
        lengths();
        roomOfAnObject();
        roomOfCalls();
        CHECK.end();
    }

    private static String signature(Method m) {
        StringBuilder s = new StringBuilder(m.getReturnType().getSimpleName()).append(' ').append(m.getName());
        for (Class<?> c : m.getParameterTypes()) {
            s.append(' ').append(c.getSimpleName());
        }
        for (Class<?> c : m.getExceptionTypes()) {
            s.append(' ').append(c.getSimpleName());
        }
        return s.toString();
    }

    private static void face() throws Exception {
        TreeSet<String> want = new TreeSet<>();
        Matcher m = Pattern.compile("^    public (int|boolean) (\\w+)\\((.*)\\)(?: throws (\\w+))?;$", Pattern.MULTILINE)
                .matcher(Files.readString(DOC));
        while (m.find()) {
            StringBuilder s = new StringBuilder(m.group(1)).append(' ').append(m.group(2));
            for (String parameter : m.group(3).split(", ")) {
                s.append(parameter.isEmpty() ? "" : " " + parameter.split(" ")[0]);
            }
            want.add(m.group(4) == null ? s.toString() : s + " " + m.group(4));
        }
        TreeSet<String> got = new TreeSet<>();
        for (Method method : CompanyCourt.class.getDeclaredMethods()) {
            if (!Modifier.isPrivate(method.getModifiers())) {
                got.add(signature(method));
            }
        }
        System.out.println(got.equals(want) ? "the face is as due" : "face: " + got + " due: " + want);
        CHECK.due("the face", got.equals(want), true);
        CHECK.due("its methods", want.size(), 39);
    }

    /** The constructor, the constants and the methods as the document writes them, parameters' names and all. */
    private static void faceToTheLetter() throws Exception {
        String document = Files.readString(DOC);
        String source = Files.readString(SOURCE);
        int from = document.indexOf("public final class CompanyCourt {");
        int to = document.indexOf("\n}", from);
        CHECK.due("the document's face", from > 0 && to > from, true);
        CHECK.due("its class", source.contains("public final class CompanyCourt {"), true);
        int lines = 0;
        for (String line : document.substring(from, to).split("\n")) {
            if (line.startsWith("    public ")) {
                String head = line.substring(0, line.length() - 1);
                CHECK.due(head.trim(), source.contains("\n" + head + (head.contains("=") ? ";" : " {")), true);
                lines++;
            }
        }
        CHECK.due("constants, a constructor, methods", lines, 2 + 1 + 39);
        CHECK.due("constructors", CompanyCourt.class.getDeclaredConstructors().length, 1);
        CHECK.due("its parameters", CompanyCourt.class.getDeclaredConstructors()[0].getParameterCount(), 0);
        CHECK.due("interfaces", CompanyCourt.class.getInterfaces().length, 0);
        CHECK.due("no class above it", CompanyCourt.class.getSuperclass() == Object.class, true);
        for (String name : List.of("NONE", "HIDDEN")) {
            Field f = CompanyCourt.class.getDeclaredField(name);
            CHECK.due(name, f.getModifiers(), Modifier.PUBLIC | Modifier.STATIC | Modifier.FINAL);
            CHECK.due(name + " is an int", f.getType() == int.class, true);
        }
    }

    /** Rule 4: what is called of the library, and nothing is called by way of a lambda or of joined texts. */
    private static void library(Bytecode bytecode) {
        List<String> lent = List.of("java/lang/Object.<init>", "java/lang/Math.min", "java/lang/Math.max",
                "java/lang/Math.abs", "java/lang/Integer.bitCount", "java/util/NoSuchElementException.<init>");
        for (String call : bytecode.outside) {
            CHECK.due("library: " + call, lent.contains(call), true);
        }
        CHECK.due("there are such calls", bytecode.outside.size() >= 4, true);
        CHECK.due("calls by other ways", bytecode.dynamic, 0);
        CHECK.due("catches", bytecode.catches, 0);
    }

    /** Rule 11: calls that are no recursion go at most eight deep, methods that call one another counted once. */
    private static void callsDeep(Bytecode bytecode) {
        int deepest = 0;
        for (String method : bytecode.methods()) {
            int deep = bytecode.depth(method);
            deepest = Math.max(deepest, deep);
            CHECK.due("calls behind " + method + " go at most eight deep", deep <= 8, true);
        }
        CHECK.due("some calls go deep", deepest > 4, true);
    }

    private static void members() {
        Class<?>[] inside = CompanyCourt.class.getDeclaredClasses();
        CHECK.due("final", Modifier.isFinal(CompanyCourt.class.getModifiers()), true);
        CHECK.due("few classes", inside.length < 12, true);
        TreeSet<String> open = new TreeSet<>();
        for (Method m : CompanyCourt.class.getDeclaredMethods()) {
            if (Modifier.isPublic(m.getModifiers())) {
                open.add(m.getName());
            }
        }
        fields(CompanyCourt.class);
        executables(CompanyCourt.class, open, true);
        for (Class<?> c : inside) {
            CHECK.due("private or package-visible: " + c, Modifier.isPublic(c.getModifiers()), false);
            CHECK.due("static: " + c, Modifier.isStatic(c.getModifiers()), true);
            fields(c);
            executables(c, open, false);
        }
    }

    private static void fields(Class<?> c) {
        int own = 0;
        for (Field f : c.getDeclaredFields()) {
            int m = f.getModifiers();
            CHECK.due("static and not final: " + f, Modifier.isStatic(m) && !Modifier.isFinal(m), false);
            own += Modifier.isStatic(m) ? 0 : 1;
            if (c == CompanyCourt.class && !Modifier.isPrivate(m)) {
                CHECK.due("open field " + f, f.getName().equals("NONE") || f.getName().equals("HIDDEN"), true);
            }
        }
        CHECK.due("fields of " + c, own <= 20, true);
    }

    private static void executables(Class<?> c, TreeSet<String> open, boolean outer) {
        for (Executable e : c.getDeclaredMethods()) {
            CHECK.due("parameters of " + e, e.getParameterCount() <= 7, true);
            if (!outer || Modifier.isPrivate(e.getModifiers())) {
                CHECK.due("bears an open name: " + e, open.contains(e.getName()), false);
            }
        }
    }

    private static String bare() throws Exception {
        return Files.readString(SOURCE).replaceAll("(?s)/\\*.*?\\*/", "").replaceAll("//[^\n]*", "")
                .replaceAll("\"[^\"\n]*\"", "\"\"").replaceAll("'.'", "'x'");
    }

    private static void words() throws Exception {
        String source = bare();
        String[] forbidden = {"->", "::", "\\bfinally\\b", "\\bcatch\\b", "\\bsynchronized\\b", "\\bassert\\b",
            "\\bhashCode\\b", "\\bNaN\\b", "Exact\\b", "\\bdouble\\b", "\\bfloat\\b", "\\bprotected\\b", "\\bpackage\\b",
            "\\bstatic \\{", "\\blambda\\b", "\\bvar\\b", "\\brecord\\b", "\\bwhile \\(true\\)", "for \\(;;\\)", "@"};
        for (String f : forbidden) {
            CHECK.due("there is " + f, Pattern.compile(f).matcher(source).find(), false);
        }
        Matcher library = Pattern.compile("\\b([A-Z][a-z]\\w*)\\.(\\w+)").matcher(source);
        List<String> own = List.of("Tape", "Log", "Session", "Law", "County", "State", "Past", "Given", "Rows");
        List<String> lent = List.of("Math.min", "Math.max", "Math.abs", "Integer.bitCount");
        while (library.find()) {
            CHECK.due("library: " + library.group(), own.contains(library.group(1)) || lent.contains(library.group()), true);
        }
        Matcher imports = Pattern.compile("import ([^;]*);").matcher(source);
        while (imports.find()) {
            CHECK.due("import", imports.group(1).equals("java.util.NoSuchElementException"), true);
        }
        Matcher thrown = Pattern.compile("\\bthrow\\b").matcher(source);
        int throwsFound = 0;
        while (thrown.find()) {
            throwsFound++;
        }
        CHECK.due("throw statements", throwsFound, 1);
    }

    private static void lengths() throws Exception {
        int from = 0;
        int line = 0;
        String indent = null;
        for (String text : Files.readAllLines(SOURCE)) {
            line++;
            Matcher m = Pattern.compile("^( {4}| {8})(?!.*\\bclass\\b)\\S.*\\(.*\\).*\\{$").matcher(text);
            if (indent == null && m.find()) {
                indent = m.group(1);
                from = line;
            } else if (indent != null && text.equals(indent + "}")) {
                CHECK.due("the method at line " + from + " is short", line - from <= 60, true);
                indent = null;
            }
        }
    }

    private static void roomOfAnObject() throws Exception {
        Map<Object, Boolean> seen = new IdentityHashMap<>();
        long[] room = new long[2];
        weigh(new CompanyCourt(), seen, room);
        System.out.println("an object is " + room[0] + " objects and arrays with " + room[1] + " fields and elements");
        CHECK.due("few objects", room[0] < 500, true);
        CHECK.due("few elements", room[1] < 9000, true);
    }

    private static void weigh(Object o, Map<Object, Boolean> seen, long[] room) throws Exception {
        if (o == null || seen.put(o, true) != null) {
            return;
        }
        room[0]++;
        if (o.getClass().isArray()) {
            room[1] += Array.getLength(o);
            if (!o.getClass().getComponentType().isPrimitive()) {
                for (Object part : (Object[]) o) {
                    weigh(part, seen, room);
                }
            }
            return;
        }
        for (Field f : o.getClass().getDeclaredFields()) {
            if (!Modifier.isStatic(f.getModifiers())) {
                room[1]++;
                if (!f.getType().isPrimitive()) {
                    f.setAccessible(true);
                    weigh(f.get(o), seen, room);
                }
            }
        }
    }

    private static long allocated() {
        return ((com.sun.management.ThreadMXBean) ManagementFactory.getThreadMXBean())
                .getThreadAllocatedBytes(Thread.currentThread().getId());
    }

    private static long calls(CompanyCourt x, int many) {
        long sum = 0;
        for (int i = 0; i < many; i++) {
            sum += x.feed(1, 2, 3, 4, 5) + (x.end(0) ? 1 : 0) + x.fault(i % 3) + x.wrong(0, 4) + x.sentence(0);
            sum += x.evening() + x.appeal(0, 1) + x.pardon(0, 2) + x.lunch(0, 1) + x.teach(0) + x.give(3);
            sum += x.years(2, i) + x.undo() + x.log(0, 2) + x.step(0, 0, 0) + x.run(0, 0) + x.perform(0);
            sum += x.owed(0, 1) + x.tonight() + x.served() + x.sooner() + x.matched(0) + x.firm(-1);
            sum += x.given(0, 3, true) + x.graves(0, -1) + x.ask(0) + x.crime(0, 1, 5) + x.game(0, 1, 1, 0, 0);
            sum += x.rests(0, 1, -1) + x.odds(0, 6, 50) + x.all(i % 10) + x.circle(0, 2) + x.image() + x.back();
            sum += x.count(3) + (x.law(-1) ? 1 : 0) + (x.sin(3) ? 1 : 0) + x.person(0, 3);
        }
        return sum;
    }

    private static void roomOfCalls() {
        CompanyCourt x = Check.court("p;p;p;p;p;p;w");
        Check.text(x, 2, "e;e;a01");
        calls(x, 50);
        long before = allocated();
        calls(x, 400);
        CHECK.due("calls make nothing", allocated() - before < 2000, true);
    }
}
