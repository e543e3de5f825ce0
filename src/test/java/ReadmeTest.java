import java.io.IOException;
import java.lang.reflect.Method;
import java.nio.file.Files;
import java.nio.file.Path;
import java.util.regex.Matcher;
import java.util.regex.Pattern;

/** What README.md tells of using the class: its calls are made, in its order, and their answers looked at. */
public final class ReadmeTest {
    private static final Pattern TYPED = Pattern.compile("type\\(lib, \"([^\"]*)\"\\);");
    private static final Pattern CALL = Pattern.compile("lib\\.(\\w+)\\(([^)]*)\\); *// (-?\\d+): .*");

    /** As README.md tells it; Due.type cuts off the blanks behind, which this one leaves there. */
    private static void type(ShownLibrary lib, String text) {
        for (int i = 0; i < text.length(); i += 8) {
            long v = 0;
            for (int k = 0; k < 8; k++) {
                v = v << 8 | (i + k < text.length() ? text.charAt(i + k) : ' ');
            }
            lib.feed(v);
        }
    }

    private static int answer(ShownLibrary lib, String name, String numbers) throws ReflectiveOperationException {
        String[] all = numbers.isEmpty() ? new String[0] : numbers.split(", ");
        Class<?>[] types = new Class<?>[all.length];
        Object[] args = new Object[all.length];
        for (int i = 0; i < all.length; i++) {
            types[i] = int.class;
            args[i] = Integer.parseInt(all[i]);
        }
        Method method = ShownLibrary.class.getMethod(name, types);
        return (Integer) method.invoke(lib, args);
    }

    /** The block of README.md that makes a library. */
    private static String[] example() throws IOException {
        String readme = Files.readString(Path.of("README.md"));
        int first = readme.indexOf("ShownLibrary lib = new ShownLibrary();\n");
        int behind = readme.indexOf("```", Math.max(first, 0));
        return first < 0 || behind < 0 ? new String[0] : readme.substring(first, behind).split("\n");
    }

    public static void main(String[] args) throws IOException, ReflectiveOperationException {
        ShownLibrary lib = new ShownLibrary();
        int calls = 0;
        String[] lines = example();
        for (int i = 1; i < lines.length; i++) {
            Matcher typed = TYPED.matcher(lines[i]);
            Matcher call = CALL.matcher(lines[i]);
            if (typed.matches()) {
                type(lib, typed.group(1));
            } else if (call.matches()) {
                calls++;
                String asked = call.group(1) + "(" + call.group(2) + ")";
                Due.is(asked, answer(lib, call.group(1), call.group(2)), Integer.parseInt(call.group(3)));
            } else if (!lines[i].isEmpty() && !lines[i].startsWith("//")) {
                Due.reads("a line of README.md's example", lines[i], "a call with its answer");
            }
        }
        Due.is("README.md shows some calls", calls > 20 ? 1 : 0, 1);
        Due.finish();
    }
}
