import java.io.IOException;
import java.lang.reflect.Method;
import java.lang.reflect.Modifier;
import java.nio.file.Files;
import java.nio.file.Path;
import java.util.Set;
import java.util.TreeSet;
import java.util.regex.Matcher;
import java.util.regex.Pattern;

/** README.md tells the truth: its example answers as its remarks say, and its tables name the whole face. */
public final class ReadmeTest {
    /** A call of the example, with the answer that its remark begins with, if it tells one. */
    private static final Pattern CALL = Pattern.compile("^x\\.(\\w+)\\(([-0-9, ]*)\\);\\s*//\\s*(?:(-?\\d+):)?.*$");
    private static final Pattern ROW = Pattern.compile("^\\| `(\\w+)\\(([a-z, ]*)\\)` \\|.*$");
    private static int wrong = 0;
    private static int answers = 0;

    public static void main(String[] args) throws Exception {
        String text = read();
        example(text);
        tables(text);
        System.out.println("ReadmeTest: " + answers + " answers, " + wrong + " wrong");
        if (wrong != 0) {
            System.exit(1);
        }
    }

    /** .ci/run starts the tests in the project's directory. */
    private static String read() throws IOException {
        return Files.readString(Path.of("README.md"));
    }

    private static void example(String text) throws Exception {
        StruckBits x = new StruckBits();
        for (String line : text.split("\n")) {
            Matcher call = CALL.matcher(line);
            if (call.matches()) {
                String got = String.valueOf(answer(x, call.group(1), call.group(2)));
                if (call.group(3) != null) {
                    due(line, got, call.group(3));
                }
            }
        }
        if (answers < 10) {
            wrong++;
            System.out.println("the example was not found: " + answers + " answers");
        }
    }

    private static Object answer(StruckBits x, String name, String list) throws Exception {
        String[] parts = list.isBlank() ? new String[0] : list.split(", *");
        Class<?>[] types = new Class<?>[parts.length];
        Object[] numbers = new Object[parts.length];
        for (int i = 0; i < parts.length; i++) {
            types[i] = int.class;
            numbers[i] = Integer.valueOf(parts[i].trim());
        }
        return StruckBits.class.getMethod(name, types).invoke(x, numbers);
    }

    private static void tables(String text) {
        Set<String> told = new TreeSet<>();
        for (String line : text.split("\n")) {
            Matcher row = ROW.matcher(line);
            if (row.matches()) {
                int parameters = row.group(2).isBlank() ? 0 : row.group(2).split(",").length;
                told.add(row.group(1) + "/" + parameters);
            }
        }
        Set<String> face = new TreeSet<>();
        for (Method method : StruckBits.class.getDeclaredMethods()) {
            if (Modifier.isPublic(method.getModifiers())) {
                face.add(method.getName() + "/" + method.getParameterCount());
            }
        }
        due("the calls that the tables name", told.toString(), face.toString());
    }

    private static void due(String what, String got, String want) {
        answers++;
        if (!got.equals(want)) {
            wrong++;
            System.out.println(what + ": " + got + ", due is " + want);
        }
    }
}
