/** Section 8 and the promises 46 to 49: no change, eight, nine; the copy; the 512th call. */
public final class HistoryLimitsTest {
    public static void main(String[] args) {
        withoutChanges();
        everyMethodIsAChange();
        changesWithoutAnEffect();
        eightChanges();
        nineChanges();
        refusedCallsAreNoChanges();
        askingIsNoChange();
        undoneChangesAreForgotten();
        undoAndChangeInTurns();
        undoOfAFullArchive();
        undoKeepsTexts();
        withoutACopy();
        copyInPlaceOfAnEarlierOne();
        copyAndHistory();
        copyOfAFullArchive();
        restoreKeepsTexts();
        lastOf512Calls();
        Checks.end();
    }

    /** "if there is none to undo" */
    private static void withoutChanges() {
        PageArchive archive = new PageArchive();
        Checks.is("undoCount", 0, archive.undoCount());
        Checks.refusesState("undo", archive::undo);
        archive.scanLeaf(0, 0);
        Checks.is("one change", 1, archive.undoCount());
        Checks.is("undo it", 0, archive.undo());
        Checks.is("undoCount", 0, archive.undoCount());
        Checks.refusesState("no more", archive::undo);
        Checks.is("scanCount", 0, archive.scanCount());
    }

    private static Scene.Use[] changes() {
        return new Scene.Use[] {x -> x.lose(1), x -> x.find(4), x -> x.attach(5, 1, 2), x -> x.detach(1),
            x -> x.label(0, 0, 3, 1), x -> x.scanLeaf(5, 1), x -> x.scanOpening(5), x -> x.scanSlip(0, 0),
            x -> x.removeScan(3), x -> x.moveScan(3, 0), x -> x.sortScans(), x -> x.turn(2), x -> x.goTo(0),
            x -> x.goBack()};
    }

    /** "The successful calls of the methods of the section "Changes" are changes" */
    private static void everyMethodIsAChange() {
        Scene.Use[] changes = changes();
        for (int i = 0; i < changes.length; i++) {
            PageArchive archive = Makers.busy();
            String before = Checks.picture(archive);
            changes[i].on(archive);
            Checks.isTrue("change " + i + " has an effect", !before.equals(Checks.picture(archive)));
            PageArchive undone = Makers.busy();
            changes[i].on(undone);
            Checks.is("change " + i + " is the latest of eight", 8, undone.undoCount());
            Checks.is("undo of change " + i, 7, undone.undo());
            Checks.is("the state before change " + i, before, Checks.picture(undone));
            PageArchive counted = Makers.busy();
            counted.restore();
            counted.turn(2);
            counted.scanLeaf(0, 0);
            counted.scanLeaf(0, 1);
            changes[i].on(counted);
            Checks.is("change " + i + " is the fourth one", 4, counted.undoCount());
        }
    }

    /** "are changes, also if they have no effect" */
    private static void changesWithoutAnEffect() {
        PageArchive archive = new PageArchive();
        archive.sortScans();
        Checks.is("sorting no scans", 1, archive.undoCount());
        archive.scanLeaf(0, 0);
        archive.moveScan(0, 0);
        Checks.is("moving a scan to its own number", 3, archive.undoCount());
        archive.sortScans();
        Checks.is("sorting a sorted scan", 4, archive.undoCount());
        archive.label(0, 1, 3, 1);
        Checks.is("a range of the style none", 5, archive.undoCount());
        Checks.is("undo it", 4, archive.undo());
        Checks.is("undo the sorting", 3, archive.undo());
        Checks.is("undo the moving", 2, archive.undo());
        Checks.is("the scan is there", 1, archive.scanCount());
        Checks.is("undo the scan", 1, archive.undo());
        Checks.is("the scan is gone", 0, archive.scanCount());
        Checks.is("undo the first sorting", 0, archive.undo());
        for (int i = 0; i < 9; i++) {
            archive.sortScans();
        }
        Checks.is("they push others out of the history", 8, archive.undoCount());
    }

    /** "The latest 8 changes can be undone one by one." */
    private static void eightChanges() {
        PageArchive archive = new PageArchive();
        for (int scan = 1; scan <= 8; scan++) {
            archive.scanLeaf(0, 0);
            Checks.is("undoCount", scan, archive.undoCount());
        }
        for (int left = 7; left >= 0; left--) {
            Checks.is("undo", left, archive.undo());
            Checks.is("undoCount", left, archive.undoCount());
            Checks.is("scanCount", left, archive.scanCount());
        }
        Checks.refusesState("all eight are undone", archive::undo);
    }

    private static void nineChanges() {
        PageArchive archive = new PageArchive();
        for (int scan = 1; scan <= 9; scan++) {
            archive.scanLeaf(0, 0);
        }
        Checks.is("undoCount", 8, archive.undoCount());
        for (int left = 7; left >= 0; left--) {
            Checks.is("undo", left, archive.undo());
            Checks.is("scanCount", left + 1, archive.scanCount());
        }
        Checks.refusesState("the first change stays", archive::undo);
        Checks.is("scanCount", 1, archive.scanCount());
        PageArchive many = new PageArchive();
        for (int scan = 0; scan < 60; scan++) {
            many.scanLeaf(0, 0);
        }
        for (int i = 0; i < 8; i++) {
            many.undo();
        }
        Checks.is("after 60 changes", 52, many.scanCount());
        Checks.refusesState("no more", many::undo);
    }

    /** "A call that throws an exception changes nothing." RefusalsTest has every such call. */
    private static void refusedCallsAreNoChanges() {
        PageArchive archive = new PageArchive();
        archive.scanLeaf(1, 1);
        for (int i = 0; i < 9; i++) {
            Checks.refusesIndex("lose", () -> archive.lose(2));
            Checks.refusesState("find", () -> archive.find(0));
            Checks.refusesIndex("moveScan", () -> archive.moveScan(0, 1));
            Checks.refusesArgument("turn", () -> archive.turn(0));
            Checks.refusesState("goBack", archive::goBack);
        }
        Checks.is("undoCount", 1, archive.undoCount());
        Checks.is("undo", 0, archive.undo());
        Checks.is("scanCount", 0, archive.scanCount());
        for (int i = 0; i < 3; i++) {
            Checks.refusesState("a refused undo", archive::undo);
            Checks.refusesState("a refused restore", archive::restore);
        }
        archive.scanLeaf(0, 0);
        Checks.is("leaves the history as it was", 1, archive.undoCount());
    }

    private static void askingIsNoChange() {
        PageArchive archive = new PageArchive();
        archive.turn(1);
        Checks.picture(archive);
        Checks.collation(archive);
        archive.formatLabel(0);
        archive.formatLeafLabel(0, 0);
        archive.findLabel(0);
        archive.nextUncovered(0);
        archive.uncovered();
        archive.needless();
        archive.inversions();
        archive.movesToOrder();
        archive.longestRun();
        archive.opening(0, 4);
        archive.openingCount();
        archive.append('a', 0, 0, 0, 0);
        archive.errorPosition();
        archive.truncate(0);
        archive.save();
        Checks.is("undoCount", 1, archive.undoCount());
        Checks.is("undo", 0, archive.undo());
        Checks.is("view", 0, archive.view());
    }

    /** "Undoes the latest change that was not undone yet." */
    private static void undoneChangesAreForgotten() {
        PageArchive archive = Checks.loaded("quire 12");
        for (int i = 0; i < 8; i++) {
            archive.turn(1);
        }
        archive.undo();
        archive.undo();
        archive.undo();
        Checks.is("view", 5, archive.view());
        archive.turn(-5);
        Checks.is("undoCount", 6, archive.undoCount());
        int[] due = {5, 4, 3, 2, 1, 0};
        for (int i = 0; i < due.length; i++) {
            Checks.is("undo", 5 - i, archive.undo());
            Checks.is("view", due[i], archive.view());
        }
        Checks.refusesState("what was undone does not come again", archive::undo);
    }

    private static void undoAndChangeInTurns() {
        PageArchive archive = Checks.loaded("quire 12;quire 12");
        for (int i = 0; i < 20; i++) {
            archive.turn(1);
            archive.turn(1);
            archive.undo();
            Checks.is("view", i + 1, archive.view());
            Checks.is("undoCount", Math.min(i + 1, 7), archive.undoCount());
        }
        for (int i = 6; i >= 0; i--) {
            Checks.is("undo", i, archive.undo());
            Checks.is("view", 13 + i, archive.view());
        }
        Checks.refusesState("no more", archive::undo);
        for (int i = 0; i < 8; i++) {
            archive.turn(1);
        }
        Checks.is("full again", 8, archive.undoCount());
        for (int i = 7; i >= 0; i--) {
            Checks.is("undo", i, archive.undo());
            Checks.is("view", 13 + i, archive.view());
        }
    }

    private static void undoOfAFullArchive() {
        PageArchive archive = Makers.sixtyScans();
        archive.removeScan(0);
        archive.sortScans();
        archive.undo();
        Checks.is("the order of before", 1, archive.scan(0, 3));
        archive.undo();
        Checks.is("scanCount", 60, archive.scanCount());
        Checks.is("the first scan", 0, archive.scan(0, 3));
        Checks.is("the last scan", 1, archive.scan(59, 3));
        PageArchive slips = Makers.twelveSlips();
        slips.detach(11);
        slips.undo();
        Checks.is("the last slip", 0, slips.slip(11, 0));
        Checks.is("its side", 0, slips.slip(11, 1));
        slips.undo();
        Checks.is("all twelve", 12, slips.volume(4));
        PageArchive trail = Checks.loaded("quire 12");
        for (int i = 0; i < 12; i++) {
            trail.turn(1);
        }
        trail.goBack();
        trail.undo();
        Checks.is("the full trail", 10, trail.trailLength());
        trail.undo();
        trail.undo();
        Checks.is("it was full then too", 10, trail.trailLength());
        Checks.is("view", 10, trail.view());
        for (int i = 9; i >= 0; i--) {
            Checks.is("the oldest ones are back", i, trail.goBack());
        }
    }

    /** "The formatted text is not changed by undo()." */
    private static void undoKeepsTexts() {
        PageArchive archive = Checks.loaded("quire 4;label 0 3 folio 8");
        archive.lose(3);
        archive.formatCollation();
        archive.undo();
        Checks.is("the text of before the undo", "A4(-4)", Checks.formatted(archive, 6));
        Checks.refusesIndex("and no more", () -> archive.formattedByte(6));
        archive.lose(0);
        archive.formatLabel(0);
        archive.undo();
        Checks.is("a label", "9r", Checks.formatted(archive, 2));
        Checks.type(archive, "8v");
        archive.lose(0);
        archive.undo();
        Checks.is("the input buffer is no part of a change", 1, archive.findLabel(0));
    }

    /** "if there is no copy" */
    private static void withoutACopy() {
        PageArchive archive = new PageArchive();
        Checks.refusesState("at first", archive::restore);
        Checks.is("save without scans", 0, archive.save());
        Checks.is("restore", 0, archive.restore());
        Checks.is("the copy is kept", 0, archive.restore());
        Checks.refusesArgument("a refused load", archive::load);
        Checks.is("keeps it", 0, archive.restore());
        Checks.type(archive, "quire 2");
        archive.load();
        Checks.refusesState("a load removes it", archive::restore);
    }

    /** "in place of an earlier copy" */
    private static void copyInPlaceOfAnEarlierOne() {
        PageArchive archive = Checks.loaded("quire 4");
        archive.scanLeaf(0, 0);
        Checks.is("save", 1, archive.save());
        archive.scanLeaf(1, 0);
        archive.turn(2);
        Checks.is("save again", 2, archive.save());
        archive.removeScan(0);
        archive.removeScan(0);
        archive.goBack();
        Checks.is("restore", 2, archive.restore());
        Checks.is("view", 2, archive.view());
        Checks.is("trail", 1, archive.trailLength());
        Checks.is("the second scan", 1, archive.scan(1, 2));
        archive.lose(3);
        Checks.is("a change leaves the copy alone", 2, archive.restore());
        Checks.is("present leaves", 4, archive.volume(2));
    }

    /** "and clears the history" */
    private static void copyAndHistory() {
        PageArchive archive = Checks.loaded("quire 4");
        for (int i = 0; i < 8; i++) {
            archive.scanLeaf(i / 2, i % 2);
        }
        archive.save();
        Checks.is("save keeps the history", 8, archive.undoCount());
        archive.undo();
        Checks.is("undo leaves the copy alone", 8, archive.restore());
        Checks.is("restore clears the history", 0, archive.undoCount());
        Checks.refusesState("undo", archive::undo);
        archive.removeScan(7);
        Checks.is("changes count from there on", 1, archive.undoCount());
        archive.undo();
        Checks.is("back to the copy", 8, archive.scanCount());
        Checks.refusesState("not before it", archive::undo);
        archive.lose(0);
        archive.undo();
        Checks.is("restore is no change", 0, archive.undoCount());
    }

    private static void copyOfAFullArchive() {
        PageArchive archive = Makers.sixtyScans();
        Checks.is("save", 60, archive.save());
        archive.find(1);
        archive.detach(0);
        archive.sortScans();
        archive.removeScan(59);
        Checks.is("restore", 60, archive.restore());
        Checks.is("as it was", Checks.picture(Makers.sixtyScans()), Checks.picture(archive));
        PageArchive slips = Makers.twelveSlips();
        slips.save();
        slips.find(1);
        slips.detach(11);
        slips.restore();
        Checks.is("twelve slips", Checks.picture(Makers.twelveSlips()), Checks.picture(slips));
        PageArchive ranges = Makers.twelveRanges();
        ranges.save();
        ranges.lose(0);
        ranges.restore();
        Checks.is("twelve ranges", Checks.picture(Makers.twelveRanges()), Checks.picture(ranges));
        Checks.refusesState("a 13th range", () -> ranges.label(0, 0, 0, 1));
    }

    /** "everything but the input buffer and the formatted text" */
    private static void restoreKeepsTexts() {
        PageArchive archive = new PageArchive();
        archive.formatCollation();
        Checks.type(archive, "quire 2");
        archive.save();
        archive.lose(0);
        archive.formatCollation();
        Checks.type(archive, ";quire 4");
        archive.restore();
        Checks.is("the formatted text", "A2(-1)", Checks.formatted(archive, 6));
        Checks.is("the length of the buffer", 15, archive.append(0, 0, 0, 0, 0));
        Checks.is("the buffer", 6, archive.load());
    }

    /** "An object is used for at most 512 calls after it has been made" */
    private static void lastOf512Calls() {
        PageArchive archive = new PageArchive();
        for (int call = 1; call <= 500; call++) {
            Checks.is("call " + call, call % 2 == 1 ? 1 : 0, archive.turn(call % 2 == 1 ? 1 : -1));
        }
        Checks.is("call 501", 10, archive.trailLength());
        Checks.is("call 502", 8, archive.undoCount());
        for (int left = 7; left >= 0; left--) {
            Checks.is("call " + (510 - left), left, archive.undo());
        }
        Checks.refusesState("call 511", archive::undo);
        Checks.is("call 512", 1, archive.goBack());
    }
}
