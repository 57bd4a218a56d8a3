import java.util.StringJoiner;

/**
 * A state that can be made again and again. A refused call must leave all of it
 * as it was, also what can be seen only by going on: the trail, the history, the
 * saved copy, the bytes of the input buffer. Each look goes on from an archive of
 * its own, so that none is used for more than 512 calls.
 */
final class Scene {
    interface Maker {
        PageArchive make();
    }

    interface Use {
        int on(PageArchive archive);
    }

    private static final int MOST_CHANGES = 8;
    private static final int MOST_TRAIL = 10;
    private static final int MOST_BYTES = 600;

    private final String name;
    private final Maker maker;
    private final String before;

    Scene(String name, Maker maker) {
        this.name = name;
        this.maker = maker;
        this.before = traces(archive -> 0);
    }

    /** The call answers this number, on an archive of its own. */
    void takes(String what, int due, Use call) {
        PageArchive archive = maker.make();
        int got;
        try {
            got = call.on(archive);
        } catch (RuntimeException e) {
            Checks.is(name + ": " + what, "an answer", "" + e);
            return;
        }
        Checks.is(name + ": " + what, due, got);
    }

    void refusesIndex(String what, Use call) {
        refuses(what, IndexOutOfBoundsException.class, call);
    }

    void refusesArgument(String what, Use call) {
        refuses(what, IllegalArgumentException.class, call);
    }

    void refusesState(String what, Use call) {
        refuses(what, IllegalStateException.class, call);
    }

    void refuses(String what, Class<? extends RuntimeException> due, Use call) {
        PageArchive archive = maker.make();
        Checks.refuses(name + ": " + what, due, () -> call.on(archive));
        Checks.is(name + ": after " + what, before, traces(call));
    }

    private PageArchive after(Use call) {
        PageArchive archive = maker.make();
        try {
            call.on(archive);
        } catch (RuntimeException e) {
            // It is looked at what the call leaves, not at what it throws.
        }
        return archive;
    }

    private String traces(Use call) {
        StringJoiner all = new StringJoiner("\n");
        all.add("now " + Checks.picture(after(call)));
        all.add("labels " + labels(after(call)));
        for (int undos = 0; undos <= MOST_CHANGES; undos++) {
            all.add("undo " + undone(after(call), undos));
        }
        all.add("trail " + trail(after(call)));
        all.add("copy " + copy(after(call)));
        all.add("formatted " + formatted(after(call)));
        all.add("input " + input(after(call)));
        return all.toString();
    }

    private static String labels(PageArchive archive) {
        StringJoiner all = new StringJoiner(",");
        for (int leaf = 0; leaf < archive.volume(1); leaf++) {
            all.add(Checks.leafLabel(archive, leaf, 0)).add(Checks.leafLabel(archive, leaf, 1));
        }
        return all.toString();
    }

    private static String undone(PageArchive archive, int undos) {
        int count = archive.undoCount();
        if (undos > count) {
            return "none";
        }
        for (int i = 0; i < undos; i++) {
            archive.undo();
        }
        return count + " " + Checks.picture(archive);
    }

    private static String trail(PageArchive archive) {
        StringJoiner all = new StringJoiner(",");
        for (int i = 0; i < MOST_TRAIL && archive.trailLength() > 0; i++) {
            all.add("" + archive.goBack());
        }
        return all.toString();
    }

    private static String copy(PageArchive archive) {
        try {
            archive.restore();
        } catch (IllegalStateException e) {
            return "none";
        }
        return Checks.picture(archive);
    }

    private static String formatted(PageArchive archive) {
        StringBuilder text = new StringBuilder();
        try {
            for (int i = 0; i < MOST_BYTES; i++) {
                text.append((char) archive.formattedByte(i));
            }
        } catch (IndexOutOfBoundsException e) {
            return text.toString();
        }
        return "too long";
    }

    /** The error positions of the last lengths tell the bytes from one another, as far as they differ as a text. */
    private static String input(PageArchive archive) {
        int length = archive.append(0, 0, 0, 0, 0);
        StringJoiner all = new StringJoiner(",").add("" + length);
        for (int left = length; left >= 0 && left > length - 100; left--) {
            archive.truncate(left);
            all.add("" + archive.errorPosition());
        }
        return all.toString();
    }
}
