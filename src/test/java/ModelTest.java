import java.lang.reflect.InvocationTargetException;
import java.lang.reflect.Method;
import java.lang.reflect.Modifier;
import java.util.ArrayList;
import java.util.Arrays;
import java.util.Comparator;
import java.util.List;
import java.util.Random;

/** Long runs of calls, the same on an archive and on the plain model, with the same answers. */
public final class ModelTest {
    private static final int RUNS = 400;
    private static final int CALLS = 512;
    private static final int[] FAR = {Integer.MIN_VALUE, Integer.MAX_VALUE, -2, 1 << 30, 0x7fffffc0, -(1 << 31) + 60};

    private final Random random;
    private final PageArchive archive = new PageArchive();
    private final PlainModel model = new PlainModel();
    private final List<Method> face;
    private final List<String> calls = new ArrayList<>();

    private ModelTest(long seed, List<Method> face) {
        this.random = new Random(seed);
        this.face = face;
    }

    public static void main(String[] args) {
        List<Method> face = new ArrayList<>();
        for (Method method : PageArchive.class.getDeclaredMethods()) {
            if (Modifier.isPublic(method.getModifiers())) {
                face.add(method);
            }
        }
        face.sort(Comparator.comparing(Method::getName));
        for (int seed = 0; seed < RUNS; seed++) {
            Checks.isTrue("run " + seed, new ModelTest(seed, face).run(seed % 4));
        }
        Checks.end();
    }

    /** The moods differ in the volume that the run begins with and in how often the setup changes. */
    private boolean run(int mood) {
        if (mood > 0) {
            type(setup(mood));
            call("load");
        }
        while (calls.size() < CALLS) {
            if (!step(mood)) {
                System.out.println(String.join("\n", calls.subList(Math.max(0, calls.size() - 30), calls.size())));
                return false;
            }
        }
        return true;
    }

    private boolean step(int mood) {
        int dice = random.nextInt(100);
        if (dice < 5) {
            return retype(mood);
        }
        if (dice < 25 && mood > 1) {
            return call(new String[] {"scanLeaf", "scanOpening", "scanSlip", "attach", "turn", "goTo"}[random.nextInt(6)]);
        }
        Method method = face.get(random.nextInt(face.size()));
        boolean isRare = List.of("load", "append", "restore").contains(method.getName());
        return isRare && random.nextInt(4) > 0 || call(method.getName());
    }

    private boolean retype(int mood) {
        if (!call("truncate", 0)) {
            return false;
        }
        int kind = random.nextInt(4);
        boolean good = kind == 0 ? type(label()) : type(kind == 1 ? setup(mood) : spoiled(setup(mood)));
        return good && call(kind == 0 ? "findLabel" : "errorPosition");
    }

    private boolean type(String text) {
        boolean good = true;
        for (int from = 0; from < text.length() && good; from += 20) {
            int[] words = new int[5];
            for (int i = 0; i < 20 && from + i < text.length(); i++) {
                words[i / 4] |= text.charAt(from + i) << 24 - 8 * (i % 4);
            }
            good = call("append", words[0], words[1], words[2], words[3], words[4]);
        }
        return good;
    }

    /** A label that is there, if there is a place. */
    private String label() {
        int places = model.placeCount();
        if (places == 0) {
            return "";
        }
        StringBuilder text = new StringBuilder();
        int length = model.formatLabel(random.nextInt(places));
        for (int i = 0; i < length; i++) {
            text.append((char) model.formattedByte(i));
        }
        // The model's formatted text was replaced, so the archive's has to be too.
        call("formatCollation");
        return text.toString();
    }

    private String setup(int mood) {
        int quires = mood == 3 ? 3 + random.nextInt(6) : 1 + random.nextInt(3);
        StringBuilder text = new StringBuilder();
        int leaves = 0;
        for (int i = 0; i < quires; i++) {
            int size = 2 + 2 * random.nextInt(mood == 3 ? 6 : 3);
            text.append(i == 0 ? "quire " : ";quire ").append(size);
            leaves += size;
        }
        int statements = random.nextInt(mood == 3 ? 16 : 8);
        for (int i = 0; i < statements; i++) {
            text.append(gap()).append(';').append(gap()).append(statement(leaves));
        }
        return text.length() > 600 ? text.substring(0, 600) : text.toString();
    }

    private String gap() {
        return " ".repeat(random.nextInt(8) == 0 ? random.nextInt(3) : 0);
    }

    private String statement(int leaves) {
        int leaf = random.nextInt(leaves);
        int to = leaf + random.nextInt(Math.min(leaves - leaf, 4));
        switch (random.nextInt(5)) {
            case 0:
                return "missing " + leaf;
            case 1:
                return "missing " + leaf + gap() + " " + to;
            case 2:
                return "slip " + leaf + (random.nextBoolean() ? " recto" : "verso") + (1 + random.nextInt(2));
            default:
                String style = new String[] {"folio", "page", "roman", "none"}[random.nextInt(4)];
                return "label" + leaf + " " + to + gap() + style + gap() + (1 + random.nextInt(999));
        }
    }

    private String spoiled(String text) {
        StringBuilder spoiled = new StringBuilder(text);
        int at = random.nextInt(text.length());
        String signs = " 0123456789;abcdeilmnopqrstuvgx" + (char) 1 + (char) 255 + "A,-";
        char sign = signs.charAt(random.nextInt(signs.length()));
        switch (random.nextInt(4)) {
            case 0 -> spoiled.setCharAt(at, sign);
            case 1 -> spoiled.insert(at, sign);
            case 2 -> spoiled.deleteCharAt(at);
            default -> spoiled.setLength(at);
        }
        return spoiled.length() > 600 ? spoiled.substring(0, 600) : spoiled.toString();
    }

    private boolean call(String name) {
        Method method = face.stream().filter(m -> m.getName().equals(name)).findFirst().orElseThrow();
        int[] arguments = new int[method.getParameterCount()];
        for (int i = 0; i < arguments.length; i++) {
            arguments[i] = argument(name, i);
        }
        return call(name, arguments);
    }

    /** Mostly a number that the call takes, sometimes one beside it, seldom one far away. */
    private int argument(String name, int position) {
        int dice = random.nextInt(40);
        if (dice == 0) {
            return FAR[random.nextInt(FAR.length)];
        }
        if (dice < 3) {
            return dice == 1 ? -1 : random.nextInt(70);
        }
        int edge = dice < 6 ? 1 : 0;
        int size = sizeOf(name, position);
        if (name.equals("turn")) {
            return random.nextInt(size + edge) - model.view();
        }
        return name.equals("label") && position == 3 ? 1 + random.nextInt(999) : random.nextInt(Math.max(1, size + edge));
    }

    private int sizeOf(String name, int position) {
        int leaves = model.volume(1);
        if (position > 0) {
            return switch (name) {
                case "label" -> position == 1 ? leaves : 4;
                case "moveScan" -> model.scanCount();
                case "attach" -> position == 1 ? 2 : 3;
                case "leaf" -> 6;
                case "slip" -> 3;
                case "sideAt", "scan" -> 4;
                case "opening" -> 5;
                default -> 2;
            };
        }
        return switch (name) {
            case "append" -> 256;
            case "truncate" -> 20;
            case "detach", "slip", "scanSlip" -> model.volume(3);
            case "removeScan", "moveScan", "scan" -> model.scanCount();
            case "scanOpening", "opening", "turn" -> model.openingCount();
            case "volume" -> 6;
            case "formattedByte" -> 8;
            case "goTo", "sideAt", "formatLabel", "findLabel", "sameLabels", "showing", "nextUncovered"
                    -> model.placeCount();
            default -> leaves;
        };
    }

    /** What an archive answers after its last call is free, so it is not asked then. */
    private boolean call(String name, int... arguments) {
        if (calls.size() >= CALLS) {
            return true;
        }
        String due = answer(model, name, arguments);
        String got = answer(archive, name, arguments);
        calls.add(name + Arrays.toString(arguments) + " answered " + got + ", due is " + due);
        return due.equals(got);
    }

    /** The answer, or the very class of the exception: what the machine throws is of another one. */
    private static String answer(Object target, String name, int[] arguments) {
        Class<?>[] types = new Class<?>[arguments.length];
        Object[] values = new Object[arguments.length];
        for (int i = 0; i < arguments.length; i++) {
            types[i] = int.class;
            values[i] = arguments[i];
        }
        try {
            return target.getClass().getDeclaredMethod(name, types).invoke(target, values).toString();
        } catch (InvocationTargetException e) {
            return e.getCause().getClass().getName();
        } catch (ReflectiveOperationException e) {
            throw new AssertionError(e);
        }
    }
}
