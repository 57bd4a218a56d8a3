/** Promises 46 to 49 and section 8: undo, save and restore. */
public final class HistoryTest {
    public static void main(String[] args) {
        everyChange();
        eightChanges();
        changesAfterUndo();
        whatUndoKeeps();
        noChanges();
        saveAndRestore();
        Checks.end();
    }

    private static PageArchive busy() {
        PageArchive archive = Checks.loaded("quire 8;missing 4 5;slip 0 recto 2;slip 3 verso 1;label 0 3 folio 1");
        archive.scanLeaf(6, 0);
        archive.scanOpening(1);
        archive.turn(3);
        archive.turn(2);
        return archive;
    }

    private static void everyChange() {
        Checks.Call[] changes = new Checks.Call[14];
        for (int i = 0; i < changes.length; i++) {
            PageArchive archive = busy();
            changes[0] = () -> archive.lose(7);
            changes[1] = () -> archive.find(4);
            changes[2] = () -> archive.attach(3, 1, 2);
            changes[3] = () -> archive.detach(0);
            changes[4] = () -> archive.label(2, 7, 1, 5);
            changes[5] = () -> archive.scanLeaf(0, 1);
            changes[6] = () -> archive.scanOpening(3);
            changes[7] = () -> archive.scanSlip(0, 1);
            changes[8] = () -> archive.removeScan(0);
            changes[9] = () -> archive.moveScan(0, 1);
            changes[10] = () -> archive.sortScans();
            changes[11] = () -> archive.turn(1);
            changes[12] = () -> archive.goTo(0);
            changes[13] = () -> archive.goBack();
            String before = Checks.picture(busy());
            int count = archive.undoCount();
            changes[i].answer();
            Checks.isTrue("change " + i + " is seen", !before.equals(Checks.picture(archive)));
            Checks.is("change " + i + " counts", count + 1, archive.undoCount());
            Checks.is("undo of change " + i, count, archive.undo());
            Checks.is("the state before change " + i, before, Checks.picture(archive));
        }
    }

    private static void eightChanges() {
        PageArchive archive = Checks.loaded("quire 12");
        for (int i = 1; i <= 11; i++) {
            archive.turn(1);
            Checks.is("undoCount", Math.min(i, 8), archive.undoCount());
        }
        for (int i = 7; i >= 0; i--) {
            Checks.is("undo", i, archive.undo());
            Checks.is("undoCount", i, archive.undoCount());
            Checks.is("view", 3 + i, archive.view());
        }
        Checks.refusesState("no more", archive::undo);
        Checks.is("view", 3, archive.view());
        Checks.is("the trail of then", 3, archive.trailLength());
    }

    private static void changesAfterUndo() {
        PageArchive archive = Checks.loaded("quire 12");
        for (int i = 0; i < 10; i++) {
            archive.turn(1);
        }
        archive.undo();
        archive.undo();
        archive.turn(-8);
        archive.scanLeaf(0, 0);
        Checks.is("undoCount", 8, archive.undoCount());
        archive.undo();
        archive.undo();
        Checks.is("view", 8, archive.view());
        for (int i = 5; i >= 0; i--) {
            Checks.is("undo", i, archive.undo());
        }
        Checks.is("view", 2, archive.view());
        PageArchive trail = Checks.loaded("quire 12");
        for (int i = 0; i < 11; i++) {
            trail.turn(1);
        }
        trail.undo();
        for (int i = 9; i >= 0; i--) {
            Checks.is("the oldest opening of the trail is back", i, trail.goBack());
        }
    }

    private static void whatUndoKeeps() {
        PageArchive archive = Checks.loaded("quire 2");
        archive.lose(1);
        Checks.is("formatCollation", 6, archive.formatCollation());
        Checks.type(archive, "quire 4");
        archive.undo();
        Checks.is("the formatted text is not changed", "A2(-2)", Checks.formatted(archive, 6));
        Checks.is("nor the input buffer", 7, archive.append(0, 0, 0, 0, 0));
        archive.attach(0, 0, 2);
        archive.undo();
        Checks.is("the slip is gone", 0, archive.volume(3));
        Checks.is("its number is free as it was", 0, archive.attach(1, 1, 1));
    }

    private static void noChanges() {
        PageArchive archive = busy();
        int count = archive.undoCount();
        Checks.refusesIndex("lose", () -> archive.lose(12));
        Checks.refusesState("find", () -> archive.find(0));
        Checks.refusesArgument("turn", () -> archive.turn(0));
        Checks.refusesIndex("removeScan", () -> archive.removeScan(2));
        Checks.picture(archive);
        archive.formatCollation();
        archive.formatLabel(0);
        archive.formatLeafLabel(4, 0);
        archive.findLabel(0);
        archive.save();
        Checks.type(archive, "quire");
        archive.truncate(0);
        archive.errorPosition();
        Checks.is("none of them is a change", count, archive.undoCount());
    }

    private static void saveAndRestore() {
        PageArchive archive = busy();
        String before = Checks.picture(busy());
        Checks.refusesState("no copy", archive::restore);
        Checks.is("save", 2, archive.save());
        archive.scanLeaf(0, 0);
        archive.detach(0);
        archive.lose(0);
        archive.label(0, 0, 0, 5);
        archive.turn(2);
        archive.formatCollation();
        Checks.type(archive, "quire 4");
        Checks.is("restore", 2, archive.restore());
        Checks.is("the copy", before, Checks.picture(archive));
        Checks.is("the formatted text is kept", "A8(-1,5,6)", Checks.formatted(archive, 10));
        Checks.is("the input buffer is kept", 7, archive.append(0, 0, 0, 0, 0));
        Checks.is("no history", 0, archive.undoCount());
        Checks.refusesState("undo", archive::undo);
        archive.removeScan(0);
        archive.goBack();
        Checks.is("the copy is kept", 2, archive.restore());
        Checks.is("as it was", before, Checks.picture(archive));
        archive.scanLeaf(0, 0);
        Checks.is("a new copy", 3, archive.save());
        archive.undo();
        Checks.is("undo leaves the copy alone", 3, archive.restore());
        Checks.is("scanCount", 3, archive.scanCount());
        Checks.is("the trail is in the copy", 3, archive.goBack());
    }
}
