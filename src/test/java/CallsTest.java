import java.io.PrintWriter;
import java.io.StringWriter;
import java.net.URISyntaxException;
import java.nio.file.Path;
import java.util.ArrayList;
import java.util.List;
import java.util.Map;
import java.util.Optional;
import java.util.Set;
import java.util.TreeMap;
import java.util.TreeSet;
import java.util.regex.Matcher;
import java.util.regex.Pattern;
import java.util.spi.ToolProvider;

/**
 * The rules of LANGUAGE.md that show in the compiled class: what calls what (4, 8, 11), where objects are made (12),
 * and that nothing is thrown or cast (6). It reads what the JDK's javap tells.
 */
public final class CallsTest {
    private static final int MOST_DEEP = 8, NO_END = 1000;
    private static final Pattern HEADER = Pattern.compile("  (?:.* )?([\\w$]+)\\(.*\\);|  static \\{(\\})?;");
    private static final Pattern INVOKE = Pattern.compile(".* invoke\\w+ +#\\d+.*// (?:Interface)?Method (?:([\\w/$]+)\\.)?\"?([\\w<>]+)\"?:.*");
    private static final Pattern MAKES = Pattern.compile(".*: (new|newarray|anewarray|multianewarray) .*");
    private static final Pattern THROWS = Pattern.compile(".*: (athrow|checkcast|monitorenter|invokedynamic)\\b.*|.*Exception table:.*");
    private static final Set<String> FROM_OUTSIDE = Set.of("java/lang/Object.<init>", "java/lang/Math.max",
        "java/lang/Math.min", "java/lang/Integer.bitCount", "java/lang/Integer.numberOfTrailingZeros");

    private final Map<String, Set<String>> calls = new TreeMap<>();
    private final Set<String> faces = new TreeSet<>();
    private final Map<String, Integer> depths = new TreeMap<>();
    private int made = 0;

    private void readClass(ToolProvider javap, Path file) {
        String owner = file.getFileName().toString().replace(".class", "");
        StringWriter out = new StringWriter();
        PrintWriter writer = new PrintWriter(out);
        Due.is("javap of " + owner, javap.run(writer, writer, "-c", "-p", file.toString()), 0);
        String method = "";
        for (String line : out.toString().split("\n")) {
            Matcher header = HEADER.matcher(line);
            if (header.matches()) {
                String name = header.group(1) == null ? "<clinit>" : header.group(1).equals(owner) ? "<init>" : header.group(1);
                method = owner + "." + name;
                calls.putIfAbsent(method, new TreeSet<>());
                if (owner.equals("ShownLibrary") && line.startsWith("  public ")) {
                    faces.add(method);
                }
            } else {
                readInstruction(owner, method, line);
            }
        }
    }

    private void readInstruction(String owner, String method, String line) {
        Matcher invoke = INVOKE.matcher(line);
        if (invoke.matches()) {
            String into = (invoke.group(1) == null ? owner : invoke.group(1)) + "." + invoke.group(2);
            if (into.startsWith("ShownLibrary")) {
                calls.get(method).add(into);
            } else {
                Due.is(method + " calls " + into, FROM_OUTSIDE.contains(into) ? 1 : 0, 1);
            }
        }
        if (MAKES.matcher(line).matches()) {
            made++;
            boolean once = method.endsWith(".<init>") || method.endsWith(".<clinit>");
            Due.is("an object is made once, not by " + method, once ? 1 : 0, 1);
        }
        if (THROWS.matcher(line).matches()) {
            Due.reads("an instruction of " + method, line.trim(), "nothing that throws or casts");
        }
    }

    /** How many calls stand open at most when a method is called; NO_END and more when it comes to itself again. */
    private int depth(String method, List<String> open) {
        if (open.contains(method)) {
            return NO_END;
        }
        Integer known = depths.get(method);
        if (known != null) {
            return known;
        }
        open.add(method);
        int deepest = 0;
        for (String next : calls.getOrDefault(method, Set.of())) {
            deepest = Math.max(deepest, depth(next, open));
        }
        open.remove(method);
        depths.put(method, deepest + 1);
        return deepest + 1;
    }

    private static List<Path> classFiles() throws URISyntaxException {
        Path dir = Path.of(ShownLibrary.class.getProtectionDomain().getCodeSource().getLocation().toURI());
        List<Path> files = new ArrayList<>();
        files.add(dir.resolve("ShownLibrary.class"));
        for (Class<?> inside : ShownLibrary.class.getDeclaredClasses()) {
            files.add(dir.resolve(inside.getName() + ".class"));
        }
        return files;
    }

    private void run(ToolProvider javap) throws URISyntaxException {
        for (Path file : classFiles()) {
            readClass(javap, file);
        }
        Due.is("calls of the face that were found, with the constructor", faces.size(), 31);
        Due.is("methods were found", calls.size() > 100 ? 1 : 0, 1);
        Due.is("places where objects are made were found", made > 20 ? 1 : 0, 1);
        for (String face : faces) {
            int depth = depth(face, new ArrayList<>());
            Due.is(face + " goes eight calls deep at most, not " + depth, depth <= MOST_DEEP ? 1 : 0, 1);
        }
    }

    public static void main(String[] args) throws URISyntaxException {
        Optional<ToolProvider> javap = ToolProvider.findFirst("javap");
        if (javap.isEmpty()) {
            System.out.println("this Java has no javap: nothing looked at");
            return;
        }
        new CallsTest().run(javap.get());
        Due.finish();
    }
}
