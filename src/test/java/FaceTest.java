import java.lang.reflect.Constructor;
import java.lang.reflect.Field;
import java.lang.reflect.Method;
import java.lang.reflect.Modifier;
import java.util.Arrays;
import java.util.Set;
import java.util.TreeSet;
import java.util.regex.Matcher;
import java.util.regex.Pattern;
import java.util.stream.Collectors;

/** The section "The public face": the class has what stands there, and nothing else that can be seen from outside. */
public final class FaceTest {
    /** As the document writes it. */
    private static final String FACE = """
            public static final int OK = 0, SYNTAX = 1, UNDEFINED = 2, TYPE = 3, DEEP = 4, MANY = 5, RANGE = 6, NAME = 7, MISSING = 8;
            public TypedText();
            public boolean put(int c);
            public int wipe();
            public boolean simple(int slot, int what, int a, int b, int c);
            public boolean list(int slot, int of, int least, int most);
            public boolean members(int slot, int name);
            public boolean field(int slot, int name, int of, boolean needed);
            public boolean tag(int slot, int tag, int of);
            public boolean wrap(int slot, int how, int of);
            public int bind(int slot);
            public int place();
            public int nodes();
            public int node(int k, int what);
            public int print();
            public int printed(int k);
        """;

    public static void main(String[] args) throws IllegalAccessException {
        Set<String> due = faceOfDocument();
        Check.same("what the document's face has", 9 + 1 + 14, due.size());
        Check.same("the face", due, faceOfClass());
        Check.same("public and final", Modifier.PUBLIC | Modifier.FINAL, TypedText.class.getModifiers());
        Check.same("superclass", Object.class, TypedText.class.getSuperclass());
        Check.same("interfaces", 0, TypedText.class.getInterfaces().length);
        Check.same("classes inside", 0, TypedText.class.getDeclaredClasses().length);
        Check.end();
    }

    /** Each constant with its value, the constructor and each method with its types. */
    private static Set<String> faceOfDocument() {
        Set<String> all = new TreeSet<>();
        for (String line : FACE.split("\n")) {
            Matcher constants = Pattern.compile("    public static final int (.*);").matcher(line);
            Matcher method = Pattern.compile("    public (\\w+ )?(\\w+)\\((.*)\\);").matcher(line);
            if (constants.matches()) {
                all.addAll(Arrays.asList(constants.group(1).split(", ")));
            } else if (method.matches()) {
                String result = method.group(1) == null ? "" : method.group(1);
                all.add(result + method.group(2) + "(" + method.group(3).replaceAll(" \\w+(?=,|$)", "") + ")");
            }
        }
        return all;
    }

    private static Set<String> faceOfClass() throws IllegalAccessException {
        Set<String> all = new TreeSet<>();
        for (Field field : TypedText.class.getDeclaredFields()) {
            if (!Modifier.isPrivate(field.getModifiers())) {
                Check.same("what " + field.getName() + " is", "public static final int",
                        Modifier.toString(field.getModifiers()) + " " + field.getType());
                all.add(field.getName() + " = " + field.getInt(null));
            }
        }
        for (Constructor<?> made : TypedText.class.getDeclaredConstructors()) {
            Check.same("constructor", "public", Modifier.toString(made.getModifiers()));
            all.add(made.getName() + told(made.getParameterTypes()));
        }
        for (Method method : TypedText.class.getDeclaredMethods()) {
            if (!Modifier.isPrivate(method.getModifiers())) {
                Check.same("what " + method.getName() + " is", "public", Modifier.toString(method.getModifiers()));
                all.add(method.getReturnType() + " " + method.getName() + told(method.getParameterTypes()));
            }
        }
        return all;
    }

    private static String told(Class<?>[] types) {
        return Arrays.stream(types).map(Class::getName).collect(Collectors.joining(", ", "(", ")"));
    }
}
