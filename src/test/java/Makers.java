/** The archives from which the tests of the boundaries start. */
final class Makers {
    private Makers() {
    }

    /** 6 leaves, of which leaf 4 is missing, 13 places, 3 slips (the last one detached), 4 scans, 6 openings. */
    static PageArchive busy() {
        PageArchive archive = Checks.loaded(
                "quire 4;quire 2;missing 4;slip 0 recto 2;slip 3 verso 1;slip 5 recto 2;label 0 3 folio 1");
        archive.scanLeaf(3, 0);
        archive.scanOpening(1);
        archive.save();
        archive.scanSlip(0, 1);
        archive.detach(2);
        archive.turn(2);
        archive.label(5, 5, 2, 9);
        archive.scanSlip(1, 0);
        archive.goTo(9);
        archive.turn(-1);
        archive.moveScan(0, 1);
        archive.formatLabel(2);
        Checks.type(archive, "quire 4;missing 3 2");
        return archive;
    }

    static PageArchive twelveSlips() {
        PageArchive archive = Checks.loaded("quire 2;missing 1" + ";slip 0 recto 1".repeat(12));
        archive.detach(5);
        return archive;
    }

    static PageArchive twelveRanges() {
        return Checks.loaded("quire 4" + ";label 1 2 page 7".repeat(12));
    }

    /** Leaf 1 is missing; slip 0 is attached, slip 1 detached. */
    static PageArchive sixtyScans() {
        PageArchive archive = Checks.loaded("quire 2;slip 0 recto 1;slip 0 verso 2;missing 1");
        archive.detach(1);
        for (int scan = 0; scan < 60; scan++) {
            archive.scanLeaf(0, scan % 2);
        }
        return archive;
    }

    /** It had more of everything before the latest load. */
    static PageArchive shrunk() {
        PageArchive archive = Checks.loaded("quire 6;missing 3;missing 5;slip 2 recto 2;slip 0 verso 2;label 0 5 page 1");
        archive.scanLeaf(2, 0);
        archive.scanSlip(0, 1);
        archive.turn(3);
        archive.turn(-1);
        archive.save();
        Checks.type(archive, "quire 2");
        archive.load();
        return archive;
    }

    /** It had one more of everything before the latest undo. */
    static PageArchive undone() {
        PageArchive archive = new PageArchive();
        archive.attach(1, 1, 2);
        archive.scanSlip(0, 1);
        archive.turn(1);
        archive.undo();
        archive.undo();
        archive.undo();
        return archive;
    }

    /** Spaces, and a setup text behind them. */
    static PageArchive filled(int length) {
        PageArchive archive = new PageArchive();
        Checks.type(archive, " ".repeat(length - 7) + "quire 4");
        return archive;
    }

    /** The rectos of leaves of one quire of 4, in this order. */
    static PageArchive scanned(int... leaves) {
        PageArchive archive = Checks.loaded("quire 4");
        for (int leaf : leaves) {
            archive.scanLeaf(leaf, 0);
        }
        return archive;
    }
}
