import java.lang.reflect.Constructor;
import java.lang.reflect.Field;
import java.lang.reflect.Method;
import java.lang.reflect.Modifier;
import java.util.Set;
import java.util.TreeSet;

/** The face of the class is the document's, and no more of it can be seen from outside. */
public final class FaceTest {
    private static final String[] FACE = {
        "int order(int,int,int)", "int change(int,int,int,int)", "int clear()", "int cell(int,int)", "int check(int,int)",
        "int run()", "int ticks()", "int many()", "int told(int)", "int after(int)", "int dead(int,int)",
        "int flip(int,int,int,int)", "int harm(int,int,int,int)", "int lasts(int,int,int,int)", "int count(int,int,int)",
        "int all(int)", "int worst(int,int)", "int costs()", "int best(int,int)", "int chosen(int)", "int take()",
        "int about(int,int)", "int size(int)", "long digest()"};
    private static final String[] CONSTANTS = {"NONE", "UNKNOWN", "OUTSIDE", "STATE", "FULL"};
    private static final int[] VALUES = {-1, -101, -102, -103, -104};
    private static int wrong = 0;

    public static void main(String[] args) throws Exception {
        Class<?> face = StruckBits.class;
        require(Modifier.isPublic(face.getModifiers()) && Modifier.isFinal(face.getModifiers()), "public and final");
        constructors(face);
        methods(face);
        constants(face);
        nested(face);
        System.out.println("FaceTest: " + wrong + " wrong");
        if (wrong != 0) {
            System.exit(1);
        }
    }

    private static void require(boolean holds, String what) {
        if (!holds) {
            wrong++;
            System.out.println("does not hold: " + what);
        }
    }

    private static void constructors(Class<?> face) {
        Constructor<?>[] all = face.getDeclaredConstructors();
        require(all.length == 1 && all[0].getParameterCount() == 0 && Modifier.isPublic(all[0].getModifiers()),
            "one public constructor without parameters");
    }

    private static void methods(Class<?> face) {
        Set<String> due = new TreeSet<>(Set.of(FACE));
        Set<String> names = new TreeSet<>();
        for (String line : FACE) {
            names.add(line.substring(line.indexOf(' ') + 1, line.indexOf('(')));
        }
        Set<String> found = new TreeSet<>();
        for (Method method : face.getDeclaredMethods()) {
            if (Modifier.isPrivate(method.getModifiers())) {
                require(!names.contains(method.getName()), "private " + method.getName() + " bears no public name");
            } else {
                found.add(signature(method));
                require(Modifier.isPublic(method.getModifiers()) && !Modifier.isStatic(method.getModifiers()),
                    method.getName() + " is public and of an object");
            }
        }
        require(found.equals(due), "the methods are " + due + ", found " + found);
    }

    private static String signature(Method method) {
        StringBuilder text = new StringBuilder();
        for (Class<?> type : method.getParameterTypes()) {
            text.append(text.length() == 0 ? "" : ",").append(type.getName());
        }
        return method.getReturnType().getName() + " " + method.getName() + "(" + text + ")";
    }

    private static void constants(Class<?> face) throws Exception {
        for (int i = 0; i < CONSTANTS.length; i++) {
            Field field = face.getDeclaredField(CONSTANTS[i]);
            require(field.getType() == int.class && field.getInt(null) == VALUES[i], CONSTANTS[i] + " is " + VALUES[i]);
            require(Modifier.isPublic(field.getModifiers()) && Modifier.isFinal(field.getModifiers()), CONSTANTS[i]);
        }
        int visible = 0;
        for (Field field : face.getDeclaredFields()) {
            visible += Modifier.isPrivate(field.getModifiers()) ? 0 : 1;
            require(!Modifier.isStatic(field.getModifiers()) || Modifier.isFinal(field.getModifiers()),
                "static " + field.getName() + " is final");
        }
        require(visible == CONSTANTS.length, "no other field can be seen");
    }

    private static void nested(Class<?> face) {
        for (Class<?> inside : face.getDeclaredClasses()) {
            require(!Modifier.isPublic(inside.getModifiers()) && Modifier.isStatic(inside.getModifiers()),
                inside.getName() + " is static and not public");
            for (Field field : inside.getDeclaredFields()) {
                require(!Modifier.isStatic(field.getModifiers()) || Modifier.isFinal(field.getModifiers()),
                    "static " + field.getName() + " is final");
            }
        }
    }
}
