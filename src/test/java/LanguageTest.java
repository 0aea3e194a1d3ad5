import java.io.IOException;
import java.lang.reflect.Field;
import java.lang.reflect.Method;
import java.lang.reflect.Modifier;
import java.nio.file.Files;
import java.nio.file.Path;
import java.util.ArrayList;
import java.util.List;
import java.util.regex.Matcher;
import java.util.regex.Pattern;
import java.util.stream.Stream;

/** What of ../shared/LANGUAGE.md can be seen in the source's words and in the compiled classes. */
public final class LanguageTest {
    private static final Path MAIN = Path.of("src/main/java");
    /** Words that the rules leave out, and throw, try and catch: the document asks for no exception. */
    private static final String[] NOT_THERE = {
        "\\bpackage\\b", "\\bimport\\b", "->", "::", "\\btry\\b", "\\bcatch\\b", "\\bfinally\\b", "\\bthrows?\\b",
        "\\bsynchronized\\b", "\\bassert\\b", "\\bthread\\b", "\\w+Exact\\b", "\\bstatic\\s*\\{", "\\bprotected\\b",
        "\\bdouble\\b", "\\bfloat\\b", "\\btoString\\b", "\\bhashCode\\b", "\\bequals\\b", "\\bvar\\b"};
    /** The library's names that the class uses; another one is to be looked up in rule 4 first. */
    private static final String LIBRARY = "Math.min Math.max System.arraycopy";
    private static final int MOST_LINES = 60, MOST_PARAMETERS = 7, MOST_CLASSES = 12, MOST_FIELDS = 20;
    private static int wrong = 0;

    public static void main(String[] args) throws Exception {
        oneFile();
        String code = withoutRemarks(Files.readString(MAIN.resolve("StruckBits.java")));
        for (String pattern : NOT_THERE) {
            Matcher found = Pattern.compile(pattern).matcher(code);
            require(!found.find(), "rules 3 to 6: the source has no " + pattern);
        }
        library(code);
        lengths(code);
        classes();
        System.out.println("LanguageTest: " + wrong + " wrong");
        if (wrong != 0) {
            System.exit(1);
        }
    }

    private static void require(boolean holds, String what) {
        if (!holds) {
            wrong++;
            System.out.println("does not hold: " + what);
        }
    }

    private static void oneFile() throws IOException {
        try (Stream<Path> all = Files.walk(MAIN)) {
            List<String> files = all.filter(Files::isRegularFile).map(Path::toString).toList();
            require(files.equals(List.of("src/main/java/StruckBits.java")), "one file, found " + files);
        }
    }

    /** Lines stay where they are. */
    private static String withoutRemarks(String source) {
        Matcher remarks = Pattern.compile("/\\*.*?\\*/|//[^\n]*", Pattern.DOTALL).matcher(source);
        return remarks.replaceAll(found -> found.group().replaceAll("[^\n]", ""));
    }

    private static void library(String code) {
        Matcher names = Pattern.compile("\\b(Math|System|Arrays|Integer|Long|String|List|Character|Objects)\\b(\\.\\w+)?").matcher(code);
        while (names.find()) {
            require(List.of(LIBRARY.split(" ")).contains(names.group()), "rule 4: the library's " + names.group());
        }
    }

    /** A method begins with a line that ends in ") {" at a class's depth, and ends with a brace at the same depth. */
    private static void lengths(String code) {
        String[] lines = code.split("\n");
        Pattern head = Pattern.compile("^( {4}| {8})(?!if|for|while|switch|do\\b|else)[a-z].*\\) \\{$");
        int methods = 0;
        for (int i = 0; i < lines.length; i++) {
            Matcher begins = head.matcher(lines[i]);
            if (begins.matches()) {
                int end = i;
                while (end < lines.length && !lines[end].equals(begins.group(1) + "}")) {
                    end++;
                }
                methods++;
                require(end - i + 1 <= MOST_LINES, "rule 11: a short method: " + lines[i].trim());
            }
        }
        require(methods > 60, "the methods were found in the source: " + methods);
    }

    private static void classes() {
        List<Class<?>> all = new ArrayList<>(List.of(StruckBits.class.getDeclaredClasses()));
        all.add(StruckBits.class);
        require(all.size() <= MOST_CLASSES, "rule 11: so many classes: " + all.size());
        for (Class<?> one : all) {
            int fields = 0;
            for (Field field : one.getDeclaredFields()) {
                boolean fixed = Modifier.isStatic(field.getModifiers());
                require(!fixed || Modifier.isFinal(field.getModifiers()), "rule 5: static " + field.getName() + " is final");
                fields += fixed ? 0 : 1;
            }
            require(fields <= MOST_FIELDS, "rule 11: so many fields in " + one.getName() + ": " + fields);
            for (Method method : one.getDeclaredMethods()) {
                require(method.getParameterCount() <= MOST_PARAMETERS, "rule 11: parameters of " + method.getName());
            }
        }
    }
}
