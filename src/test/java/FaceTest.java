import java.lang.reflect.Constructor;
import java.lang.reflect.Field;
import java.lang.reflect.Method;
import java.lang.reflect.Modifier;
import java.util.Map;
import java.util.Set;
import java.util.TreeMap;
import java.util.TreeSet;

/** The public face: the names and parameters of the document, and no other member that can be seen. */
public final class FaceTest {
    private static final String[] FACE = {
        "append 5", "truncate 1", "errorPosition 0", "load 0", "lose 1", "find 1", "attach 3", "detach 1",
        "label 4", "scanLeaf 2", "scanOpening 1", "scanSlip 2", "removeScan 1", "moveScan 2", "sortScans 0",
        "turn 1", "goTo 1", "goBack 0", "volume 1", "leaf 2", "slip 2", "formatCollation 0", "formattedByte 1",
        "placeCount 0", "sideAt 2", "placeOf 2", "formatLabel 1", "formatLeafLabel 2", "findLabel 1",
        "sameLabels 1", "openingCount 0", "opening 2", "view 0", "trailLength 0", "scanCount 0", "scan 2",
        "showing 1", "uncovered 0", "nextUncovered 1", "needless 0", "inversions 0", "movesToOrder 0",
        "longestRun 0", "firstMisplaced 0", "undo 0", "undoCount 0", "save 0", "restore 0"};

    public static void main(String[] args) throws Exception {
        Class<?> type = PageArchive.class;
        Checks.isTrue("public", Modifier.isPublic(type.getModifiers()));
        Checks.isTrue("final", Modifier.isFinal(type.getModifiers()));
        Checks.is("NONE", -1, PageArchive.NONE);
        constructors(type);
        methods(type);
        fields(type);
        nestedClasses(type);
        Checks.end();
    }

    private static void constructors(Class<?> type) {
        Constructor<?>[] all = type.getDeclaredConstructors();
        Checks.is("constructors", 1, all.length);
        Checks.isTrue("the constructor is public", Modifier.isPublic(all[0].getModifiers()));
        Checks.is("parameters of the constructor", 0, all[0].getParameterCount());
    }

    private static void methods(Class<?> type) {
        Map<String, Method> seen = new TreeMap<>();
        Set<String> publicNames = new TreeSet<>();
        for (Method method : type.getDeclaredMethods()) {
            if (Modifier.isPrivate(method.getModifiers())) {
                continue;
            }
            seen.put(method.getName() + " " + method.getParameterCount(), method);
            publicNames.add(method.getName());
            Checks.isTrue(method + " is public", Modifier.isPublic(method.getModifiers()));
            Checks.isTrue(method + " answers an int", method.getReturnType() == int.class);
            for (Class<?> parameter : method.getParameterTypes()) {
                Checks.isTrue(method + " takes ints", parameter == int.class);
            }
        }
        for (String due : FACE) {
            Checks.isTrue(due + " is there", seen.containsKey(due));
        }
        Checks.is("methods that can be seen", FACE.length, seen.size());
        for (Method method : type.getDeclaredMethods()) {
            if (Modifier.isPrivate(method.getModifiers())) {
                Checks.isTrue(method + " has a name of its own", !publicNames.contains(method.getName()));
            }
        }
    }

    private static void fields(Class<?> type) {
        for (Field field : type.getDeclaredFields()) {
            boolean isNone = field.getName().equals("NONE");
            Checks.isTrue(field + " is seen only if it is NONE",
                    isNone ? Modifier.isPublic(field.getModifiers()) : Modifier.isPrivate(field.getModifiers()));
            Checks.isTrue(field + " is final if it is static",
                    !Modifier.isStatic(field.getModifiers()) || Modifier.isFinal(field.getModifiers()));
        }
    }

    private static void nestedClasses(Class<?> type) {
        for (Class<?> nested : type.getDeclaredClasses()) {
            int modifiers = nested.getModifiers();
            Checks.isTrue(nested + " is static", Modifier.isStatic(modifiers));
            Checks.isTrue(nested + " is not public", !Modifier.isPublic(modifiers) && !Modifier.isProtected(modifiers));
        }
        Checks.isTrue("some twelve classes", type.getDeclaredClasses().length < 12);
    }
}
