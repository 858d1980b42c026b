import java.io.IOException;
import java.lang.reflect.Constructor;
import java.lang.reflect.Field;
import java.lang.reflect.Method;
import java.lang.reflect.Modifier;
import java.nio.file.Files;
import java.nio.file.Path;
import java.util.ArrayList;
import java.util.Collections;
import java.util.List;
import java.util.regex.Matcher;
import java.util.regex.Pattern;

/** The document's face, nothing visible beside it, and no word that LANGUAGE.md rules out. */
public final class FaceTest {
    private static final String[] METHODS = {
        "house()", "tie(int,int,boolean)", "untie(int,int)", "right(int,int,int)", "free(int,int)",
        "rightful(int,int)", "say(int,int,int)", "unsay(int)", "set(int,int,boolean)", "rounds(int,int)",
        "restless(int,int)", "way(int,int,int,int)", "broken(int,int,int)", "goes(int,int)", "misled(int)",
        "saying(int,int)", "watchers()", "cure(int)", "halves(int)", "count(int)"};
    private static final String[] CONSTANTS = {"NONE", "BAD", "TWICE", "RING", "NOT", "FULL", "LOST", "ROUND"};
    private static final String RULED_OUT =
        "\\b(throw|throws|try|catch|synchronized|assert|import|package|native|volatile|protected|Object)\\b|->|::";

    // What the class uses of rule 4; whoever uses more of it adds that here.
    private static final List<String> LIBRARY = List.of("Integer.bitCount", "System.arraycopy");

    private static final Check check = new Check();

    public static void main(String[] args) throws IOException {
        check.holds("the class is public and final", RouteWatch.class.getModifiers() == (Modifier.PUBLIC | Modifier.FINAL));
        methods();
        constants();
        constructors();
        classesInside();
        words(Path.of(args.length > 0 ? args[0] : ".").resolve("src/main/java/RouteWatch.java"));
        check.end("FaceTest");
    }

    private static void methods() {
        List<String> visible = new ArrayList<>();
        List<String> publicNames = new ArrayList<>();
        for (Method method : RouteWatch.class.getDeclaredMethods()) {
            if (!Modifier.isPrivate(method.getModifiers())) {
                String types = method.toString().replaceAll(".*\\((.*)\\).*", "$1");
                visible.add(method.getName() + "(" + types + ")");
                publicNames.add(method.getName());
                check.holds(method + " is public and answers an int",
                    method.getModifiers() == Modifier.PUBLIC && method.getReturnType() == int.class);
            }
        }
        List<String> want = new ArrayList<>(List.of(METHODS));
        Collections.sort(want);
        Collections.sort(visible);
        check.holds("the methods are " + want + ": " + visible, want.equals(visible));
        for (Method method : RouteWatch.class.getDeclaredMethods()) {
            boolean hidden = Modifier.isPrivate(method.getModifiers());
            check.holds(method + " bears no public name", !hidden || !publicNames.contains(method.getName()));
        }
    }

    private static void constants() {
        List<String> visible = new ArrayList<>();
        for (Field field : RouteWatch.class.getDeclaredFields()) {
            int modifiers = field.getModifiers();
            if (!Modifier.isPrivate(modifiers)) {
                visible.add(field.getName());
                check.holds(field + " is a public int constant", field.getType() == int.class
                    && modifiers == (Modifier.PUBLIC | Modifier.STATIC | Modifier.FINAL));
            }
        }
        check.holds("the constants are " + visible, visible.equals(List.of(CONSTANTS)));
        int[] values = {RouteWatch.NONE, RouteWatch.BAD, RouteWatch.TWICE, RouteWatch.RING, RouteWatch.NOT,
            RouteWatch.FULL, RouteWatch.LOST, RouteWatch.ROUND};
        for (int i = 0; i < values.length; i++) {
            check.due(CONSTANTS[i], values[i], -1 - i);
        }
    }

    private static void constructors() {
        Constructor<?>[] all = RouteWatch.class.getDeclaredConstructors();
        check.due("constructors", all.length, 1);
        check.holds("it is public and takes nothing",
            all[0].getModifiers() == Modifier.PUBLIC && all[0].getParameterCount() == 0);
    }

    private static void classesInside() {
        Class<?>[] inside = RouteWatch.class.getDeclaredClasses();
        check.holds("at most twelve classes", inside.length < 12);
        membersOf(RouteWatch.class);
        for (Class<?> one : inside) {
            membersOf(one);
            int modifiers = one.getModifiers();
            check.holds(one + " is static and not public",
                Modifier.isStatic(modifiers) && !Modifier.isPublic(modifiers) && !Modifier.isProtected(modifiers));
            check.holds(one + " has at most twenty fields", one.getDeclaredFields().length <= 20);
        }
    }

    private static void membersOf(Class<?> one) {
        for (Method method : one.getDeclaredMethods()) {
            check.holds(method + " takes at most seven", method.getParameterCount() <= 7);
            boolean hidden = one != RouteWatch.class && Modifier.isPrivate(method.getModifiers());
            check.holds(method + " bears no public name", !hidden || !isPublicName(method.getName()));
        }
        for (Field field : one.getDeclaredFields()) {
            int modifiers = field.getModifiers();
            check.holds(field + " is no state of the class", !Modifier.isStatic(modifiers) || Modifier.isFinal(modifiers));
        }
    }

    private static boolean isPublicName(String name) {
        for (String method : METHODS) {
            if (method.startsWith(name + "(")) {
                return true;
            }
        }
        return false;
    }

    /** LANGUAGE.md, rule 11: a method opens and closes at the depth of its class's members. */
    private static void lengths(String code) {
        int start = 0;
        String[] lines = code.split("\n");
        for (int i = 0; i < lines.length; i++) {
            if (lines[i].matches(" {4,8}(public|private|static|int|boolean|void|[A-Z]).*\\) \\{")) {
                start = i;
            }
            if (lines[i].matches(" {4,8}}")) {
                check.holds("at most sixty lines: " + lines[start], i - start < 60);
            }
        }
    }

    private static void library(String code) {
        Matcher found = Pattern.compile("\\b[A-Z][a-z]+\\.[a-z]\\w*").matcher(code);
        while (found.find()) {
            check.holds(found.group() + " is of the library that is left", LIBRARY.contains(found.group()));
        }
    }

    private static void words(Path file) throws IOException {
        String code = Files.readString(file).replaceAll("(?s)/\\*.*?\\*/", "").replaceAll("//.*", "");
        Matcher found = Pattern.compile(RULED_OUT).matcher(code);
        while (found.find()) {
            check.holds("'" + found.group() + "' is ruled out", false);
        }
        library(code);
        lengths(code);
        check.holds("the file was read", code.contains("public final class RouteWatch"));
    }
}
