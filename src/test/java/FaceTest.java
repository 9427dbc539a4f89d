import java.io.IOException;
import java.lang.reflect.Constructor;
import java.lang.reflect.Field;
import java.lang.reflect.Method;
import java.lang.reflect.Modifier;
import java.nio.file.Files;
import java.nio.file.Path;
import java.util.TreeSet;
import java.util.regex.Matcher;
import java.util.regex.Pattern;

/** The public face, the constants, and rules 1 and 5 of the language as far as the class itself tells them. */
public final class FaceTest {
    private static final String FACE = "ahead(int,int,int) begin(int) check() clear() close() comes(int,int) count(int)"
        + " drop() first(int) parse(int) parsed(int) place(int,int) put(int) reduction(int) row(int,int) state(int,int)"
        + " token(int)";

    private static final Path DOCUMENT = Path.of("..", "shared", "DOC.md");
    private static final Pattern METHOD = Pattern.compile("public int (\\w+)\\(([^)]*)\\);");

    public static void main(String[] args) throws IOException {
        Due.due("NONE", TablePacker.NONE, -1);
        Due.due("FULL", TablePacker.FULL, -2);
        int modifiers = TablePacker.class.getModifiers();
        Due.due("the class is public and final", Modifier.isPublic(modifiers) && Modifier.isFinal(modifiers));
        methodsAreTheFace();
        fieldsArePrivateButTheConstants();
        Constructor<?>[] constructors = TablePacker.class.getDeclaredConstructors();
        Due.due("one public constructor without parameters", constructors.length == 1
            && Modifier.isPublic(constructors[0].getModifiers()) && constructors[0].getParameterCount() == 0);
        classesInside();
        if (Files.isReadable(DOCUMENT)) {
            faceIsTheDocuments(Files.readString(DOCUMENT));
        }
        Due.end();
    }

    private static void faceIsTheDocuments(String document) {
        TreeSet<String> told = new TreeSet<>();
        Matcher methods = METHOD.matcher(document);
        while (methods.find()) {
            told.add(methods.group(1) + "(" + methods.group(2).replaceAll("int \\w+", "int").replace(" ", "") + ")");
        }
        Due.due("the document's section 'The public face' has these methods: " + told,
            String.join(" ", told).equals(FACE));
    }

    private static void methodsAreTheFace() {
        TreeSet<String> open = new TreeSet<>();
        TreeSet<String> openNames = new TreeSet<>();
        for (Method method : TablePacker.class.getDeclaredMethods()) {
            if (!Modifier.isPrivate(method.getModifiers())) {
                open.add(signature(method));
                openNames.add(method.getName());
                Due.due(method + " answers an int, and is public", method.getReturnType() == int.class
                    && method.getModifiers() == Modifier.PUBLIC);
            }
        }
        Due.due("the methods are the document's: " + open, String.join(" ", open).equals(FACE));
        for (Method method : TablePacker.class.getDeclaredMethods()) {
            if (Modifier.isPrivate(method.getModifiers())) {
                Due.due(method + " has a name of its own", !openNames.contains(method.getName()));
            }
        }
    }

    private static String signature(Method method) {
        StringBuilder text = new StringBuilder(method.getName()).append('(');
        for (int i = 0; i < method.getParameterCount(); i++) {
            text.append(i == 0 ? "" : ",").append(method.getParameterTypes()[i].getName());
        }
        return text.append(')').toString();
    }

    private static void fieldsArePrivateButTheConstants() {
        for (Field field : TablePacker.class.getDeclaredFields()) {
            boolean constant = field.getName().equals("NONE") || field.getName().equals("FULL");
            Due.due(field + " is private, or a constant", constant || Modifier.isPrivate(field.getModifiers()));
            Due.due(field + " is final, if it is static",
                !Modifier.isStatic(field.getModifiers()) || Modifier.isFinal(field.getModifiers()));
        }
    }

    private static void classesInside() {
        Class<?>[] inside = TablePacker.class.getDeclaredClasses();
        Due.due("at most some twelve classes", inside.length < 12);
        for (Class<?> one : inside) {
            int modifiers = one.getModifiers();
            Due.due(one + " is static, and not public or protected", Modifier.isStatic(modifiers)
                && !Modifier.isPublic(modifiers) && !Modifier.isProtected(modifiers));
        }
    }
}
