import java.util.ArrayList;
import java.util.List;

/** What the tests share: comparing answers, and texts in and out of an archive. */
final class Checks {
    /** A call whose answer is a number. */
    interface Call {
        int answer();
    }

    private static int count = 0;
    private static int wrong = 0;
    private static PageArchive reader = new PageArchive();
    private static int texts = 0;

    private Checks() {
    }

    static void is(String what, int want, int got) {
        count++;
        if (want != got) {
            wrong++;
            System.out.println(what + " answered " + got + ", due is " + want);
        }
    }

    static void is(String what, String want, String got) {
        count++;
        if (!want.equals(got)) {
            wrong++;
            System.out.println(what + " is \"" + got + "\", due is \"" + want + "\"");
        }
    }

    static void isTrue(String what, boolean holds) {
        is(what, 1, holds ? 1 : 0);
    }

    /** The class must be just that one: what the machine throws is of a class below it. */
    static void refuses(String what, Class<? extends RuntimeException> due, Call call) {
        count++;
        String got;
        try {
            got = "answered " + call.answer();
        } catch (RuntimeException e) {
            if (e.getClass() == due) {
                return;
            }
            got = "threw " + e;
        }
        wrong++;
        System.out.println(what + " " + got + ", due is " + due.getSimpleName());
    }

    static void refusesIndex(String what, Call call) {
        refuses(what, IndexOutOfBoundsException.class, call);
    }

    static void refusesArgument(String what, Call call) {
        refuses(what, IllegalArgumentException.class, call);
    }

    static void refusesState(String what, Call call) {
        refuses(what, IllegalStateException.class, call);
    }

    /** Ends the test program: with 1 if an answer was wrong. */
    static void end() {
        System.out.println(count + " checks, " + wrong + " wrong");
        if (wrong != 0 || count == 0) {
            System.exit(1);
        }
    }

    /** Appends a text of the characters 1 to 255 to the input buffer. */
    static int type(PageArchive archive, String text) {
        int length = 0;
        for (int from = 0; from == 0 || from < text.length(); from += 20) {
            int[] words = new int[5];
            for (int i = 0; i < 20; i++) {
                int one = from + i < text.length() ? text.charAt(from + i) : 0;
                words[i / 4] = words[i / 4] << 8 | one;
            }
            length = archive.append(words[0], words[1], words[2], words[3], words[4]);
        }
        return length;
    }

    /** The text is valid up to the sign ^, which is taken out; without one it is valid as a whole. */
    static void reads(String marked) {
        int due = marked.indexOf('^');
        String text = due < 0 ? marked : marked.substring(0, due) + marked.substring(due + 1);
        // An archive is used for 512 calls, and a text takes at most 33 of them.
        if (texts++ % 10 == 0) {
            reader = new PageArchive();
        }
        reader.truncate(0);
        type(reader, text);
        is("errorPosition of \"" + text + "\"", due, reader.errorPosition());
        is("the length is kept", text.length(), reader.append(0, 0, 0, 0, 0));
    }

    /** An archive that was set up by a text. */
    static PageArchive loaded(String setup) {
        PageArchive archive = new PageArchive();
        type(archive, setup);
        archive.load();
        return archive;
    }

    /** The first bytes of the formatted text. */
    static String formatted(PageArchive archive, int length) {
        StringBuilder text = new StringBuilder();
        for (int i = 0; i < length; i++) {
            text.append((char) archive.formattedByte(i));
        }
        return text.toString();
    }

    static String labelAt(PageArchive archive, int place) {
        return formatted(archive, archive.formatLabel(place));
    }

    static String leafLabel(PageArchive archive, int leaf, int side) {
        return formatted(archive, archive.formatLeafLabel(leaf, side));
    }

    static String collation(PageArchive archive) {
        return formatted(archive, archive.formatCollation());
    }

    /** All that can be asked of an archive but its formatted text, so that two states can be compared. */
    static String picture(PageArchive archive) {
        List<Integer> all = new ArrayList<>();
        for (int what = 0; what < 6; what++) {
            all.add(archive.volume(what));
        }
        for (int leaf = 0; leaf < archive.volume(1); leaf++) {
            for (int what = 0; what < 6; what++) {
                all.add(archive.leaf(leaf, what));
            }
        }
        for (int slip = 0; slip < archive.volume(3); slip++) {
            for (int what = 0; what < 3; what++) {
                all.add(archive.slip(slip, what));
            }
        }
        for (int place = 0; place < archive.placeCount(); place++) {
            for (int what = 0; what < 4; what++) {
                all.add(archive.sideAt(place, what));
            }
            all.add(archive.sameLabels(place));
            all.add(archive.showing(place));
        }
        for (int scan = 0; scan < archive.scanCount(); scan++) {
            for (int what = 0; what < 4; what++) {
                all.add(archive.scan(scan, what));
            }
        }
        all.add(archive.view());
        all.add(archive.trailLength());
        return all.toString();
    }
}
