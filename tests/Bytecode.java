import java.io.PrintWriter;
import java.io.StringWriter;
import java.net.URI;
import java.nio.file.Files;
import java.nio.file.Path;
import java.util.ArrayList;
import java.util.HashMap;
import java.util.HashSet;
import java.util.List;
import java.util.Map;
import java.util.Set;
import java.util.TreeMap;
import java.util.TreeSet;
import java.util.regex.Matcher;
import java.util.regex.Pattern;
import java.util.spi.ToolProvider;
import java.util.stream.Stream;

/** Who calls whom in a class and the classes inside it, read off what javap shows of it. */
final class Bytecode {
    private static final Pattern CLASS = Pattern.compile("^(?:\\w+ )*class ([\\w$]+).*\\{$");
    private static final Pattern METHOD = Pattern.compile("^  \\S.*?([\\w$]+)\\([^)]*\\).*;$");
    private static final Pattern CALL = Pattern.compile("// (?:Interface)?Method (?:([\\w$/\\[;]+|\"[^\"]*\")\\.)?\"?([\\w<>]+)\"?:");
    final Set<String> outside = new TreeSet<>();
    int dynamic = 0;
    int catches = 0;
    private final Map<String, Set<String>> calls = new TreeMap<>();
    private final Map<String, Set<String>> behind = new HashMap<>();
    private final Map<String, Integer> depths = new HashMap<>();

    Bytecode(Class<?> outer) throws Exception {
        String own = outer.getName();
        String type = null;
        String method = null;
        for (String line : shown(outer).split("\n")) {
            Matcher m = CLASS.matcher(line);
            if (m.matches()) {
                type = m.group(1);
                continue;
            }
            m = METHOD.matcher(line);
            if (m.matches()) {
                method = type + "." + (m.group(1).equals(type) ? "<init>" : m.group(1));
                calls.putIfAbsent(method, new TreeSet<>());
                continue;
            }
            dynamic += line.contains("invokedynamic") ? 1 : 0;
            catches += line.contains("Exception table:") ? 1 : 0;
            m = CALL.matcher(line);
            if (method != null && m.find()) {
                String of = m.group(1) == null ? type : m.group(1);
                boolean inside = of.equals(own) || of.startsWith(own + "$");
                (inside ? calls.get(method) : outside).add(of + "." + m.group(2));
            }
        }
    }

    private static String shown(Class<?> outer) throws Exception {
        URI place = outer.getProtectionDomain().getCodeSource().getLocation().toURI();
        List<String> arguments = new ArrayList<>(List.of("-p", "-c"));
        try (Stream<Path> files = Files.list(Path.of(place))) {
            files.filter(f -> f.getFileName().toString().matches(outer.getName() + "(\\$\\w+)?\\.class")).sorted()
                    .forEach(f -> arguments.add(f.toString()));
        }
        StringWriter shown = new StringWriter();
        ToolProvider.findFirst("javap").orElseThrow().run(new PrintWriter(shown), new PrintWriter(System.err),
                arguments.toArray(new String[0]));
        return shown.toString();
    }

    Set<String> methods() {
        return calls.keySet();
    }

    /** All that a method may come to call, itself only if it may call itself again. */
    private Set<String> behind(String method) {
        Set<String> known = behind.get(method);
        if (known == null) {
            known = new HashSet<>();
            List<String> left = new ArrayList<>(calls.getOrDefault(method, Set.of()));
            while (!left.isEmpty()) {
                String next = left.remove(left.size() - 1);
                if (known.add(next)) {
                    left.addAll(calls.getOrDefault(next, Set.of()));
                }
            }
            behind.put(method, known);
        }
        return known;
    }

    private boolean together(String one, String other) {
        return one.equals(other) || behind(one).contains(other) && behind(other).contains(one);
    }

    /** How many methods stand open at most from this one on, those that call one another counted once. */
    int depth(String method) {
        Integer known = depths.get(method);
        if (known != null) {
            return known;
        }
        int most = 0;
        for (String member : calls.keySet()) {
            for (String next : together(method, member) ? calls.get(member) : Set.<String>of()) {
                most = together(method, next) ? most : Math.max(most, depth(next));
            }
        }
        depths.put(method, most + 1);
        return most + 1;
    }
}
