/** Promises 1 to 5: a new object, the input buffer, and loading it. */
public final class InputTest {
    public static void main(String[] args) {
        newObject();
        append();
        appendUpToTheLimit();
        truncate();
        load();
        loadReplacesEverything();
        refusedLoad();
        Checks.end();
    }

    private static void newObject() {
        PageArchive archive = new PageArchive();
        Checks.is("a new archive", Checks.picture(Checks.loaded("quire 2")), Checks.picture(archive));
        Checks.is("quires", 1, archive.volume(0));
        Checks.is("leaves", 2, archive.volume(1));
        Checks.is("present leaves", 2, archive.volume(2));
        Checks.is("slips", 0, archive.volume(3));
        Checks.is("ranges", 0, archive.volume(5));
        Checks.is("scans", 0, archive.scanCount());
        Checks.is("view", 0, archive.view());
        Checks.is("trail", 0, archive.trailLength());
        Checks.is("undo", 0, archive.undoCount());
        Checks.refusesState("restore", archive::restore);
        Checks.refusesIndex("formattedByte", () -> archive.formattedByte(0));
        Checks.is("input buffer", 0, archive.append(0, 0, 0, 0, 0));
    }

    private static void append() {
        PageArchive archive = new PageArchive();
        Checks.is("append skips zeros", 3, archive.append(0x33007200, 0, 0, 0, 0x0000002a));
        Checks.is("append goes on behind", 4, archive.append(0, 'a', 0, 0, 0));
        Checks.is("20 bytes", 24, archive.append(0x61616161, 0x61616161, 0x61616161, 0x61616161, 0x61616161));
        archive.truncate(4);
        // The label of the first slip on the recto of folio 3 is 3r*a, if the bytes stand in this order.
        archive.label(0, 1, 0, 3);
        archive.attach(0, 0, 1);
        Checks.is("the order of the bytes", 1, archive.findLabel(0));
        archive.truncate(0);
        Checks.is("each parameter in its turn", 4, archive.append('3', 'r', 0, '*', 'a'));
        Checks.is("the order of the parameters", 1, archive.findLabel(0));
        archive.truncate(0);
        Checks.is("the highest bytes", 20, archive.append(-1, -1, -1, -1, -1));
        Checks.is("no label has them", PageArchive.NONE, archive.findLabel(0));
    }

    private static void appendUpToTheLimit() {
        PageArchive archive = new PageArchive();
        for (int i = 1; i < 30; i++) {
            Checks.is("append", 20 * i, archive.append(-1, -1, -1, -1, -1));
        }
        archive.append(0x20202000, -1, -1, -1, -1);
        int two = 0x20002000;
        Checks.refusesState("601 bytes by a", () -> archive.append(two, 0, 0, 0, 0));
        Checks.refusesState("601 bytes by b", () -> archive.append(0, two, 0, 0, 0));
        Checks.refusesState("601 bytes by c", () -> archive.append(0, 0, two, 0, 0));
        Checks.refusesState("601 bytes by d", () -> archive.append(0, 0, 0, two, 0));
        Checks.refusesState("601 bytes by e", () -> archive.append(0, 0, 0, 0, two));
        Checks.is("nothing was appended", 599, archive.append(0, 0, 0, 0, 0));
        Checks.is("600 bytes, with zeros among them", 600, archive.append(0, 0, 0x00200000, 0, 0));
        Checks.refusesState("a 601st byte", () -> archive.append(0, 0, 0, 0, 1));
        Checks.is("no byte is always fine", 600, archive.append(0, 0, 0, 0, 0));
        Checks.is("a full buffer is read to its end", 0, archive.errorPosition());
    }

    private static void truncate() {
        PageArchive archive = new PageArchive();
        Checks.is("an empty buffer", 0, archive.truncate(0));
        Checks.refusesArgument("too long", () -> archive.truncate(1));
        Checks.type(archive, "quire 4;missing 1");
        Checks.refusesArgument("negative", () -> archive.truncate(-1));
        Checks.refusesArgument("least", () -> archive.truncate(Integer.MIN_VALUE));
        Checks.refusesArgument("one too long", () -> archive.truncate(18));
        Checks.refusesArgument("greatest", () -> archive.truncate(Integer.MAX_VALUE));
        Checks.is("nothing was cut off", 17, archive.append(0, 0, 0, 0, 0));
        Checks.is("the present length", 17, archive.truncate(17));
        Checks.is("shorter", 7, archive.truncate(7));
        Checks.is("what is left", PageArchive.NONE, archive.errorPosition());
        Checks.is("loads", 4, archive.load());
        Checks.is("without what was cut off", 4, archive.volume(2));
    }

    private static void load() {
        PageArchive archive = new PageArchive();
        Checks.type(archive, "quire 4;quire 2;missing 1;slip 2 recto 2;slip 3 verso 1;label 0 5 roman 9");
        Checks.is("errorPosition", PageArchive.NONE, archive.errorPosition());
        Checks.is("errorPosition changes nothing", 2, archive.volume(1));
        Checks.is("load", 6, archive.load());
        Checks.is("the buffer is empty", 0, archive.append(0, 0, 0, 0, 0));
        Checks.is("quires", 2, archive.volume(0));
        Checks.is("present", 5, archive.volume(2));
        Checks.is("slips", 2, archive.volume(3));
        Checks.is("ranges", 1, archive.volume(5));
        Checks.is("collation", "A4(-2) B2", Checks.collation(archive));
        Checks.is("the leaf of slip 0", 2, archive.slip(0, 0));
        Checks.is("the side of slip 0", 0, archive.slip(0, 1));
        Checks.is("the sides of slip 0", 2, archive.slip(0, 2));
        Checks.is("the side of slip 1", 1, archive.slip(1, 1));
        Checks.is("the sides of slip 1", 1, archive.slip(1, 2));
        Checks.is("a label", "xix", Checks.leafLabel(archive, 5, 0));
        String[] styles = {"folio", "7r", "page", "7", "roman", "vii", "none", ""};
        for (int i = 0; i < styles.length; i += 2) {
            PageArchive other = Checks.loaded("quire 2;label 0 1 " + styles[i] + " 7");
            Checks.is("the style " + styles[i], styles[i + 1], Checks.leafLabel(other, 0, 0));
        }
    }

    private static void loadReplacesEverything() {
        PageArchive archive = Checks.loaded("quire 6;missing 4 5;slip 0 recto 2;label 0 3 page 1");
        archive.scanOpening(1);
        archive.turn(2);
        archive.turn(1);
        archive.save();
        Checks.type(archive, "quire 6");
        archive.load();
        Checks.is("as new", Checks.picture(Checks.loaded("quire 6")), Checks.picture(archive));
        Checks.is("no scans", 0, archive.scanCount());
        Checks.is("view", 0, archive.view());
        Checks.is("trail", 0, archive.trailLength());
        Checks.is("nothing to undo", 0, archive.undoCount());
        Checks.refusesState("undo", archive::undo);
        Checks.refusesState("restore", archive::restore);
        Checks.refusesIndex("no slip is left", () -> archive.scanSlip(0, 0));
        Checks.refusesIndex("nor a scan", () -> archive.scan(0, 0));
    }

    private static void refusedLoad() {
        PageArchive archive = Checks.loaded("quire 4;slip 1 recto 1");
        archive.scanLeaf(0, 0);
        archive.save();
        String before = Checks.picture(archive);
        Checks.refusesArgument("an empty text", archive::load);
        Checks.type(archive, "quire 6;missing 7");
        Checks.refusesArgument("a wrong text", archive::load);
        Checks.is("the buffer is kept", 17, archive.append(0, 0, 0, 0, 0));
        Checks.is("nothing is changed", before, Checks.picture(archive));
        Checks.is("undo is kept", 1, archive.undoCount());
        Checks.is("the copy is kept", 1, archive.restore());
    }
}
