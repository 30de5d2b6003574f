import java.io.IOException;
import java.lang.reflect.Constructor;
import java.lang.reflect.Field;
import java.lang.reflect.Method;
import java.lang.reflect.Modifier;
import java.nio.file.Files;
import java.nio.file.Path;
import java.util.Set;
import java.util.TreeSet;
import java.util.regex.Matcher;
import java.util.regex.Pattern;

/** The public face of the document, and those rules of LANGUAGE.md that can be seen from outside or by words. */
public final class FaceTest {
    private static final String FACE = "at(int,int) count(int) endsFirst() fault() group(int,int,int) lamp(int) lens(int)"
        + " lit(int,int) next(int) ofGroup(int,int) ofLamp(int,int) ofShow(int,int) oftenOf(int) put(long) restore(int)"
        + " run() runsLeft() save(int) set(int,int) tell(int) undo() why() wipe()";
    private static final String CONSTANTS = "BAD_TEXT BAD_VALUE DIM FOG LIFE NONE NOT_POSSIBLE NO_SUCH PRICE SEATS TOO_MANY WAIT";
    private static final String BANNED = "throw|throws|try|catch|finally|synchronized|assert|volatile|transient|native|float|double"
        + "|System\\.(?!arraycopy\\b)\\w+|Object|Class|Thread|Random|Iterator|Collections|Stream|->|::";

    public static void main(String[] args) throws IOException {
        methods();
        fieldsAndConstructors();
        classesInside();
        words();
        Due.end("FaceTest");
    }

    private static void yes(String what, boolean holds) {
        Due.is(what, holds ? 1 : 0, 1);
    }

    private static void methods() {
        Set<String> open = new TreeSet<>();
        Set<String> names = new TreeSet<>();
        for (Method method : DomeLamps.class.getDeclaredMethods()) {
            if (Modifier.isPublic(method.getModifiers())) {
                open.add(method.getName() + parameters(method.getParameterTypes()));
                names.add(method.getName());
                yes(method.getName() + " answers an int", method.getReturnType() == int.class);
                yes(method.getName() + " is not static", !Modifier.isStatic(method.getModifiers()));
            }
        }
        yes("the public methods: " + open, String.join(" ", open).equals(FACE));
        for (Class<?> type : DomeLamps.class.getDeclaredClasses()) {
            ownNames(type, names);
        }
        ownNames(DomeLamps.class, names);
    }

    /** Methods that are not public have names of their own. */
    private static void ownNames(Class<?> type, Set<String> names) {
        for (Method method : type.getDeclaredMethods()) {
            if (!Modifier.isPublic(method.getModifiers())) {
                yes(method + " has a name of its own", !names.contains(method.getName()));
                yes(method + " has at most seven parameters", method.getParameterCount() <= 7);
                yes(method + " of the face is private", type != DomeLamps.class || Modifier.isPrivate(method.getModifiers()));
            }
        }
    }

    private static String parameters(Class<?>[] types) {
        String[] names = new String[types.length];
        for (int i = 0; i < types.length; i++) {
            names[i] = types[i].getName();
        }
        return "(" + String.join(",", names) + ")";
    }

    private static void fieldsAndConstructors() {
        Set<String> constants = new TreeSet<>();
        for (Field field : DomeLamps.class.getDeclaredFields()) {
            int modifiers = field.getModifiers();
            if (Modifier.isPublic(modifiers)) {
                constants.add(field.getName());
                yes(field + " is a constant", Modifier.isStatic(modifiers) && Modifier.isFinal(modifiers) && field.getType() == int.class);
            } else {
                yes(field + " is private", Modifier.isPrivate(modifiers));
            }
        }
        yes("the constants: " + constants, String.join(" ", constants).equals(CONSTANTS));
        yes("the class is public and final", DomeLamps.class.getModifiers() == (Modifier.PUBLIC | Modifier.FINAL));
        yes("the class has no package", DomeLamps.class.getPackageName().isEmpty());
        yes("the class extends Object alone", DomeLamps.class.getSuperclass() == Object.class && DomeLamps.class.getInterfaces().length == 0);
        Constructor<?>[] constructors = DomeLamps.class.getDeclaredConstructors();
        yes("one constructor", constructors.length == 1);
        yes("it is public and takes nothing", Modifier.isPublic(constructors[0].getModifiers()) && constructors[0].getParameterCount() == 0);
    }

    private static void classesInside() {
        Class<?>[] inside = DomeLamps.class.getDeclaredClasses();
        yes("at most twelve classes", inside.length < 12);
        for (Class<?> type : inside) {
            int modifiers = type.getModifiers();
            yes(type + " is static", Modifier.isStatic(modifiers));
            yes(type + " is not public or protected", !Modifier.isPublic(modifiers) && !Modifier.isProtected(modifiers));
            int own = 0;
            for (Field field : type.getDeclaredFields()) {
                own += Modifier.isStatic(field.getModifiers()) ? 0 : 1;
                yes(field + " is final if it is static", !Modifier.isStatic(field.getModifiers()) || Modifier.isFinal(field.getModifiers()));
            }
            yes(type + " has at most twenty fields", own <= 20);
        }
    }

    private static void words() throws IOException {
        String source = Files.readString(Path.of("src/main/java/DomeLamps.java"));
        String bare = source.replaceAll("(?s)/\\*.*?\\*/", " ").replaceAll("//[^\n]*", " ");
        Matcher imports = Pattern.compile("import [^;]*;").matcher(bare);
        while (imports.find()) {
            yes(imports.group() + " is the one import", imports.group().equals("import java.util.Arrays;"));
        }
        Matcher banned = Pattern.compile("(?<!\\w)(" + BANNED + ")(?!\\w)").matcher(bare);
        while (banned.find()) {
            yes("without the word " + banned.group(), false);
        }
        yes("without texts", bare.indexOf('"') < 0);
    }
}
