import java.lang.reflect.Constructor;
import java.lang.reflect.Field;
import java.lang.reflect.Method;
import java.lang.reflect.Modifier;
import java.nio.file.Files;
import java.nio.file.Path;
import java.util.Arrays;
import java.util.Map;
import java.util.Set;
import java.util.TreeMap;
import java.util.regex.Matcher;
import java.util.regex.Pattern;
import java.util.stream.Collectors;

/**
 * The public face: the signatures of the document, and no other member that can
 * be seen; and what LANGUAGE.md says of the classes' members.
 */
public final class FaceTest {
    private static final String[] FACE = {
        "append 5", "truncate 1", "errorPosition 0", "load 0", "lose 1", "find 1", "attach 3", "detach 1",
        "label 4", "scanLeaf 2", "scanOpening 1", "scanSlip 2", "removeScan 1", "moveScan 2", "sortScans 0",
        "turn 1", "goTo 1", "goBack 0", "volume 1", "leaf 2", "slip 2", "formatCollation 0", "formattedByte 1",
        "placeCount 0", "sideAt 2", "placeOf 2", "formatLabel 1", "formatLeafLabel 2", "findLabel 1",
        "sameLabels 1", "openingCount 0", "opening 2", "view 0", "trailLength 0", "scanCount 0", "scan 2",
        "showing 1", "uncovered 0", "nextUncovered 1", "needless 0", "inversions 0", "movesToOrder 0",
        "longestRun 0", "firstMisplaced 0", "undo 0", "undoCount 0", "save 0", "restore 0"};
    private static final Pattern SIGNATURE = Pattern.compile("(?m)^    public int (\\w+)\\((.*?)\\)(?: throws (.*))?;$");
    private static final int MOST_PARAMETERS = 7;
    private static final int MOST_FIELDS = 20;

    public static void main(String[] args) throws Exception {
        Class<?> type = PageArchive.class;
        Checks.isTrue("public", Modifier.isPublic(type.getModifiers()));
        Checks.isTrue("final", Modifier.isFinal(type.getModifiers()));
        Checks.is("NONE", -1, PageArchive.NONE);
        constructors(type);
        methods(type);
        signatures(type);
        fields(type);
        nestedClasses(type);
        members(type, type);
        for (Class<?> nested : type.getDeclaredClasses()) {
            members(nested, type);
        }
        Checks.end();
    }

    private static void constructors(Class<?> type) {
        Constructor<?>[] all = type.getDeclaredConstructors();
        Checks.is("constructors", 1, all.length);
        Checks.isTrue("the constructor is public", Modifier.isPublic(all[0].getModifiers()));
        Checks.is("parameters of the constructor", 0, all[0].getParameterCount());
    }

    private static void methods(Class<?> type) {
        Map<String, Method> seen = new TreeMap<>();
        for (Method method : type.getDeclaredMethods()) {
            if (Modifier.isPrivate(method.getModifiers())) {
                continue;
            }
            seen.put(method.getName() + " " + method.getParameterCount(), method);
            Checks.isTrue(method + " is public", Modifier.isPublic(method.getModifiers()));
            Checks.isTrue(method + " answers an int", method.getReturnType() == int.class);
            for (Class<?> parameter : method.getParameterTypes()) {
                Checks.isTrue(method + " takes ints", parameter == int.class);
            }
        }
        for (String due : FACE) {
            Checks.isTrue(due + " is there", seen.containsKey(due));
        }
        Checks.is("methods that can be seen", FACE.length, seen.size());
    }

    /** What each method says that it throws, as the document's own lines have it. */
    private static void signatures(Class<?> type) throws Exception {
        Matcher due = SIGNATURE.matcher(Files.readString(Path.of("../shared/DOC.md")));
        int count = 0;
        while (due.find()) {
            count++;
            int parameters = due.group(2).isEmpty() ? 0 : due.group(2).split(",").length;
            Class<?>[] ints = new Class<?>[parameters];
            Arrays.fill(ints, int.class);
            String thrown = Arrays.stream(type.getMethod(due.group(1), ints).getExceptionTypes())
                    .map(Class::getSimpleName).collect(Collectors.joining(", "));
            Checks.is(due.group(1) + " throws", due.group(3) == null ? "" : due.group(3), thrown);
        }
        Checks.is("signatures in the document", FACE.length, count);
    }

    private static void fields(Class<?> type) {
        for (Field field : type.getDeclaredFields()) {
            boolean isNone = field.getName().equals("NONE");
            Checks.isTrue(field + " is seen only if it is NONE",
                    isNone ? Modifier.isPublic(field.getModifiers()) : Modifier.isPrivate(field.getModifiers()));
            Checks.isTrue(field + " is final if it is static",
                    !Modifier.isStatic(field.getModifiers()) || Modifier.isFinal(field.getModifiers()));
        }
    }

    private static void nestedClasses(Class<?> type) {
        for (Class<?> nested : type.getDeclaredClasses()) {
            int modifiers = nested.getModifiers();
            Checks.isTrue(nested + " is static", Modifier.isStatic(modifiers));
            Checks.isTrue(nested + " is not public", !Modifier.isPublic(modifiers) && !Modifier.isProtected(modifiers));
        }
        Checks.isTrue("some twelve classes", type.getDeclaredClasses().length < 12);
    }

    /** Rules 1, 5 and 11 of LANGUAGE.md, for the class itself and for those inside it. */
    private static void members(Class<?> type, Class<?> face) {
        Set<String> publicNames = Arrays.stream(face.getDeclaredMethods())
                .filter(method -> Modifier.isPublic(method.getModifiers())).map(Method::getName)
                .collect(Collectors.toSet());
        for (Method method : type.getDeclaredMethods()) {
            Checks.isTrue(method + " has few parameters", method.getParameterCount() <= MOST_PARAMETERS);
            Checks.isTrue(method + " is not private by a public name",
                    !Modifier.isPrivate(method.getModifiers()) || !publicNames.contains(method.getName()));
        }
        int own = 0;
        for (Field field : type.getDeclaredFields()) {
            boolean isStatic = Modifier.isStatic(field.getModifiers());
            own += isStatic ? 0 : 1;
            Checks.isTrue(field + " is a constant if it is static",
                    !isStatic || Modifier.isFinal(field.getModifiers()) && isConstantType(field.getType()));
        }
        Checks.isTrue(type + " has some twenty fields", own <= MOST_FIELDS);
    }

    private static boolean isConstantType(Class<?> type) {
        return type == int.class || type == long.class || type == boolean.class || type == char.class
                || type == String.class || type.isArray();
    }
}
