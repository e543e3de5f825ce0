import java.io.IOException;
import java.lang.reflect.Constructor;
import java.lang.reflect.Field;
import java.lang.reflect.Method;
import java.lang.reflect.Modifier;
import java.nio.file.Files;
import java.nio.file.Path;
import java.util.Random;
import java.util.Set;
import java.util.TreeSet;
import java.util.regex.Matcher;
import java.util.regex.Pattern;

/** The rules of LANGUAGE.md that a test can look at: the face, the words that may not stand, no call that throws. */
public final class LanguageTest {
    private static final String FACE = "as(II) change(I) count(I) day(I) denied(II) end(I) fault() feed(J) find(III) hand(I)"
        + " holds(III) lay(III) leans(II) like(III) of(II) proof(I) prove(I) read(IIIII) seek(IIII) sheet(III) show()"
        + " sign(III) step(III) stepOf(III) take(III) teach(III) text() undo() word(II) worlds(II)";
    private static final String[] BANNED = {"throw", "try", "catch", "finally", "synchronized", "assert", "import", "package",
        "->", "::", "hashCode", "toString", "Exact", "System.", "Thread", "Random", "double", "float", "volatile", "static {"};

    private static void face() {
        Set<String> found = new TreeSet<>();
        Set<String> hidden = new TreeSet<>();
        for (Method m : ShownLibrary.class.getDeclaredMethods()) {
            StringBuilder b = new StringBuilder(m.getName()).append('(');
            for (Class<?> c : m.getParameterTypes()) {
                b.append(c == long.class ? "J" : c == int.class ? "I" : "?");
            }
            if (Modifier.isPublic(m.getModifiers())) {
                found.add(b.append(')').toString());
                Due.is(m.getName() + " answers an int", m.getReturnType() == int.class ? 1 : 0, 1);
            } else {
                hidden.add(m.getName());
                Due.is(m.getName() + " is private", Modifier.isPrivate(m.getModifiers()) ? 1 : 0, 1);
            }
        }
        String all = String.join(" ", found);
        if (!all.equals(FACE)) {
            System.out.println("the face is " + all);
        }
        Due.is("the face is the document's", all.equals(FACE) ? 1 : 0, 1);
        for (String name : hidden) {
            Due.is("a private " + name, FACE.contains(" " + name + "(") ? 1 : 0, 0);
        }
        int constants = 0;
        for (Field f : ShownLibrary.class.getDeclaredFields()) {
            constants += Modifier.isPublic(f.getModifiers()) ? 1 : 0;
            Due.is(f.getName() + " is public or private", f.getModifiers() & (Modifier.PUBLIC | Modifier.PRIVATE),
                Modifier.isPublic(f.getModifiers()) ? Modifier.PUBLIC : Modifier.PRIVATE);
        }
        Due.is("constants", constants, 5);
        Due.is("constructors", ShownLibrary.class.getDeclaredConstructors().length, 1);
        for (Constructor<?> c : ShownLibrary.class.getDeclaredConstructors()) {
            Due.is("the constructor is public", Modifier.isPublic(c.getModifiers()) ? 1 : 0, 1);
        }
        Due.is("the class is final", Modifier.isFinal(ShownLibrary.class.getModifiers()) ? 1 : 0, 1);
        for (Class<?> c : ShownLibrary.class.getDeclaredClasses()) {
            Due.is(c.getSimpleName() + " is static", Modifier.isStatic(c.getModifiers()) ? 1 : 0, 1);
            int fields = 0;
            for (Field f : c.getDeclaredFields()) {
                fields += Modifier.isStatic(f.getModifiers()) ? 0 : 1;
                boolean fixed = !Modifier.isStatic(f.getModifiers()) || Modifier.isFinal(f.getModifiers());
                Due.is(c.getSimpleName() + "." + f.getName() + " is final, if static", fixed ? 1 : 0, 1);
            }
            Due.is(c.getSimpleName() + " has some twenty fields", fields <= 20 ? 1 : 0, 1);
            for (Method m : c.getDeclaredMethods()) {
                Due.is(m.getName() + " has seven parameters at most", m.getParameterCount() <= 7 ? 1 : 0, 1);
                Due.is("a " + m.getName() + " inside", (" " + FACE).contains(" " + m.getName() + "(") ? 1 : 0, 0);
            }
        }
        Due.is("some twelve classes", ShownLibrary.class.getDeclaredClasses().length + 1 <= 12 ? 1 : 0, 1);
    }

    private static void words() throws IOException {
        String source = Files.readString(Path.of("src/main/java/ShownLibrary.java"));
        String code = source.replaceAll("(?s)/\\*.*?\\*/", "").replaceAll("//[^\n]*", "");
        for (String word : BANNED) {
            boolean isWord = word.matches("\\w+");
            Matcher m = Pattern.compile(isWord ? "\\b\\w*" + word + "\\b" : Pattern.quote(word)).matcher(code);
            boolean found = m.find() && (!isWord || m.group().equals(word) || word.equals("Exact"));
            Due.is("'" + word + "' stands in the source", found ? 1 : 0, 0);
        }
        boolean plain = source.chars().allMatch(c -> c == '\n' || c >= 32 && c < 127);
        Due.is("plain signs alone", plain ? 1 : 0, 1);
        Matcher method = Pattern.compile("(?ms)^( {4}| {8})(\\w[^\n;=]*\\) \\{)$(.*?)^\\1\\}$").matcher(code);
        int methods = 0;
        while (method.find()) {
            methods++;
            Due.is("a short method: " + method.group(2), method.group(3).split("\n").length <= 60 ? 1 : 0, 1);
        }
        Due.is("methods were found", methods > 100 ? 1 : 0, 1);
    }

    private static final int[] EDGES = {Integer.MIN_VALUE, Integer.MIN_VALUE + 1, -101, -2, -1, 0, 1, 2, 3, 4, 5, 7, 8, 9, 10,
        11, 19, 20, 21, 23, 24, 31, 32, 33, 34, 89, 90, 91, 199, 200, 201, 239, 240, 241, 999, 1000, 59048, 59049, 1 << 24,
        Integer.MAX_VALUE - 60, Integer.MAX_VALUE - 1, Integer.MAX_VALUE};

    /** Calls with numbers at all edges, on objects in many states, far beyond the 512 that are promised. */
    private static void nothingThrows() throws ReflectiveOperationException {
        Random random = new Random(5);
        String[] texts = {"word a 1 mxx;word b 2 maxy;taken mxy=myx;wish ax=mxx;wish bxy=mmxxy;wish mxo=mox;", "taken ", "x",
            "taken mmxyz=mxmyz;wish mzmyx=mmxyz;", "mxo", "word c 1 bxax;word d 2 y;", "wish cx=mmmxxxaxax;wish x=x;"};
        Method[] face = ShownLibrary.class.getDeclaredMethods();
        for (int run = 0; run < 40; run++) {
            ShownLibrary x = new ShownLibrary();
            for (int call = 0; call < 3000; call++) {
                if (random.nextInt(20) == 0) {
                    x.end(0);
                    Due.type(x, texts[random.nextInt(texts.length)]);
                    x.text();
                }
                Method m = face[random.nextInt(face.length)];
                if (!Modifier.isPublic(m.getModifiers())) {
                    continue;
                }
                Object[] args = new Object[m.getParameterCount()];
                for (int i = 0; i < args.length; i++) {
                    int v = random.nextInt(4) == 0 ? EDGES[random.nextInt(EDGES.length)] : random.nextInt(9);
                    args[i] = m.getParameterTypes()[i] == long.class ? (Object) (v * 0x0101010101010101L) : (Object) v;
                }
                if (m.getName().equals("day") && random.nextInt(9) != 0) {
                    continue;
                }
                m.invoke(x, args);
            }
        }
    }

    public static void main(String[] args) throws IOException, ReflectiveOperationException {
        face();
        words();
        nothingThrows();
        Due.finish();
    }
}
