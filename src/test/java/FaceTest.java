import java.io.IOException;
import java.lang.reflect.Constructor;
import java.lang.reflect.Field;
import java.lang.reflect.Method;
import java.lang.reflect.Modifier;
import java.nio.file.Files;
import java.nio.file.Path;
import java.util.Arrays;
import java.util.Set;
import java.util.TreeSet;
import java.util.regex.Matcher;
import java.util.regex.Pattern;
import java.util.stream.Collectors;

/** The face is the document's and no other, and the source keeps to what LANGUAGE.md lets be seen in it. */
public final class FaceTest {
    private static final Set<String> METHODS = new TreeSet<>(Arrays.asList(
        "int feed(int,int,int,int,int)", "boolean end(int)", "int strait()", "int fault()", "int good(int,int,int)",
        "int crossed(int,int)", "int man(int,int) NoSuchElementException", "int apart(int,int)", "int now(int)",
        "int hoard(int,int,int)", "int bare(int,int,int)", "int waste(int,int,int)", "int die(int)", "int days(int)",
        "int undo()", "int lacks(int)", "int falses(int)", "int going()", "int goes(int)", "int crosses(int)",
        "int comes(int,int)", "int without(int,int,int,int)", "int meet(int,int)", "int loads(int)", "int which()",
        "int settles()", "int hunger(int,int,int)", "int prices()", "int price(int,int)", "int dearest()", "int rats()",
        "int hoarded(int)", "int drawn(int,int)", "int odds(int,int,int)", "int log(int)", "int logged(int)",
        "int sentence()", "int said(int)", "boolean image(int)", "boolean restore(int)", "int count(int)"));
    private static final String[] BANNED = {"->", "::", "catch", "try {", "finally", "synchronized", "assert ", "instanceof",
        "System.out", "String.format", "import java.util.*", "new int[n", "while (true)", "for (;;)", "@Override",
        "Exact(", "lambda", "float ", "double ", "volatile"};

    /** Rule 4: all that is called by a name of the library's classes. */
    private static final Pattern LIBRARY = Pattern.compile("\\b(Math|Integer|Long|System|Arrays|String)\\.(\\w+)");
    private static final Set<String> LIBRARY_USED = new TreeSet<>(Arrays.asList(
        "Math.min", "Math.max", "Integer.bitCount", "System.arraycopy"));

    private FaceTest() {
    }

    private static String told(Method method) {
        String types = Arrays.stream(method.getParameterTypes()).map(Class::getSimpleName).collect(Collectors.joining(","));
        String thrown = Arrays.stream(method.getExceptionTypes()).map(t -> " " + t.getSimpleName()).collect(Collectors.joining());
        return method.getReturnType().getSimpleName() + " " + method.getName() + "(" + types + ")" + thrown;
    }

    private static void checkMembers(Checks checks) {
        Class<?> type = LackFerry.class;
        checks.due("the class is public and final", Modifier.isPublic(type.getModifiers()) && Modifier.isFinal(type.getModifiers()), true);
        Set<String> found = new TreeSet<>();
        Set<String> names = new TreeSet<>();
        for (Method method : type.getDeclaredMethods()) {
            if (Modifier.isPublic(method.getModifiers())) {
                found.add(told(method));
                names.add(method.getName());
            }
        }
        checks.due("the public methods are the document's: " + found, found.equals(METHODS), true);
        for (Method method : type.getDeclaredMethods()) {
            int mods = method.getModifiers();
            checks.due(method + " is public or private", Modifier.isPublic(mods) || Modifier.isPrivate(mods), true);
            checks.due(method + " bears a name of its own", Modifier.isPublic(mods) || !names.contains(method.getName()), true);
        }
        for (Field field : type.getDeclaredFields()) {
            boolean isNone = field.getName().equals("NONE");
            checks.due(field + " is as visible as told", Modifier.isPublic(field.getModifiers()), isNone);
            checks.due(field + " is private or NONE", isNone || Modifier.isPrivate(field.getModifiers()), true);
            checks.due(field + " is final if static", !Modifier.isStatic(field.getModifiers()) || Modifier.isFinal(field.getModifiers()), true);
        }
        checks.due("NONE", LackFerry.NONE, -1);
        Constructor<?>[] makers = type.getDeclaredConstructors();
        checks.due("one constructor", makers.length, 1);
        checks.due("it is public, without parameters", Modifier.isPublic(makers[0].getModifiers()) && makers[0].getParameterCount() == 0, true);
        for (Class<?> inner : type.getDeclaredClasses()) {
            int mods = inner.getModifiers();
            checks.due(inner + " is static, and not public", Modifier.isStatic(mods) && !Modifier.isPublic(mods) && !Modifier.isProtected(mods), true);
            for (Method method : inner.getDeclaredMethods()) {
                checks.due(method + " bears a name of its own", names.contains(method.getName()), false);
            }
        }
        checks.due("at most twelve classes", type.getDeclaredClasses().length + 1 <= 12, true);
        checkSizes(checks, type);
        for (Class<?> inner : type.getDeclaredClasses()) {
            checkSizes(checks, inner);
        }
    }

    /** Rules 5 and 11. */
    private static void checkSizes(Checks checks, Class<?> type) {
        int fields = 0;
        for (Field field : type.getDeclaredFields()) {
            boolean isStatic = Modifier.isStatic(field.getModifiers());
            fields += isStatic ? 0 : 1;
            boolean isConstant = field.getType() == int.class || field.getType() == String.class;
            checks.due(field + " is a final constant if static", !isStatic || isConstant && Modifier.isFinal(field.getModifiers()), true);
        }
        checks.due(type + " has twenty fields at most", fields <= 20, true);
        for (Method method : type.getDeclaredMethods()) {
            checks.due(method + " has seven parameters at most", method.getParameterCount() <= 7, true);
        }
    }

    /** Rule 11: a method goes from the line that opens it to the bracket that stands as far in. */
    private static void checkLengths(Checks checks, String source) {
        String opening = null;
        int length = 0;
        int methods = 0;
        for (String line : source.split("\n")) {
            boolean isOpening = line.matches("( {4}| {8})[\\w ]+\\[?\\]?[\\w ]*\\(.*\\)( throws \\w+)? \\{");
            if (opening == null && isOpening) {
                opening = line;
                length = 0;
            }
            length++;
            String in = opening == null ? "" : opening.substring(0, opening.length() - opening.stripLeading().length());
            if (opening != null && line.equals(in + "}")) {
                checks.due("some sixty lines at most: " + opening.strip(), length <= 60, true);
                opening = null;
                methods++;
            }
        }
        int declared = LackFerry.class.getDeclaredMethods().length + 1;
        for (Class<?> inner : LackFerry.class.getDeclaredClasses()) {
            declared += inner.getDeclaredMethods().length;
        }
        checks.due("each method was measured", methods, declared);
    }

    private static void checkSource(Checks checks) throws IOException {
        String source = Files.readString(Path.of("src/main/java/LackFerry.java"));
        for (String banned : BANNED) {
            checks.due("the source has '" + banned + "'", source.contains(banned), false);
        }
        checks.due("texts joined by +", source.matches("(?s).*(\"\\s*\\+|\\+\\s*\").*"), false);
        checks.due("one import", source.split("\nimport |^import ").length, 2);
        checkLengths(checks, source);
        Matcher library = LIBRARY.matcher(source);
        while (library.find()) {
            checks.due(library.group() + " is listed", LIBRARY_USED.contains(library.group()), true);
        }
        checks.due("signs 1 to 127 alone", source.chars().allMatch(c -> c >= 1 && c <= 127), true);
    }

    public static void main(String[] args) throws IOException {
        Checks checks = new Checks();
        checks.about("the face");
        checkMembers(checks);
        checks.about("the source");
        checkSource(checks);
        checks.end();
    }
}
