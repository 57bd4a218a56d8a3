/** Promises 11 to 16 and 36 to 45: scans, what they cover, and their order. */
public final class ScansTest {
    public static void main(String[] args) {
        scanLeaf();
        scanOpening();
        scanSlip();
        atMostSixty();
        removeScan();
        moveScan();
        sortScans();
        numbersOfScans();
        placesChange();
        covering();
        needless();
        orders();
        ordersOfEqualPlaces();
        ordersWithoutScans();
        answersFollowTheLeaves();
        Checks.end();
    }

    /** The kind and the two parts of a scan. */
    private static String scanAt(PageArchive archive, int scan) {
        return archive.scan(scan, 0) + " " + archive.scan(scan, 2) + " " + archive.scan(scan, 3);
    }

    private static String allScans(PageArchive archive) {
        StringBuilder all = new StringBuilder();
        for (int scan = 0; scan < archive.scanCount(); scan++) {
            all.append(scan == 0 ? "" : ", ").append(scanAt(archive, scan));
        }
        return all.toString();
    }

    /** Rectos of leaves, in the order that is given. */
    private static PageArchive scanned(String setup, int... leaves) {
        PageArchive archive = Checks.loaded(setup);
        for (int leaf : leaves) {
            archive.scanLeaf(leaf, 0);
        }
        return archive;
    }

    private static void scanLeaf() {
        PageArchive archive = Checks.loaded("quire 4;missing 1");
        Checks.refusesIndex("leaf -1 before the side", () -> archive.scanLeaf(-1, 2));
        Checks.refusesIndex("leaf 4 before the side", () -> archive.scanLeaf(4, 2));
        Checks.refusesArgument("side -1", () -> archive.scanLeaf(0, -1));
        Checks.refusesArgument("side 2 before the missing leaf", () -> archive.scanLeaf(1, 2));
        Checks.refusesState("a missing leaf", () -> archive.scanLeaf(1, 0));
        Checks.is("no change", 0, archive.undoCount());
        Checks.is("scan 0", 0, archive.scanLeaf(3, 1));
        Checks.is("scan 1", 1, archive.scanLeaf(0, 0));
        Checks.is("the same side once more", 2, archive.scanLeaf(0, 0));
        Checks.is("scans", "0 3 1, 0 0 0, 0 0 0", allScans(archive));
    }

    private static void scanOpening() {
        PageArchive archive = Checks.loaded("quire 4;missing 1");
        Checks.refusesIndex("opening -1", () -> archive.scanOpening(-1));
        Checks.refusesIndex("opening 4", () -> archive.scanOpening(4));
        for (int opening = 0; opening < 4; opening++) {
            Checks.is("scan", opening, archive.scanOpening(opening));
        }
        Checks.is("scans", "1 -1 0, 1 0 2, 1 2 3, 1 3 -1", allScans(archive));
        archive.find(1);
        Checks.is("they stay the same", "1 -1 0, 1 0 2, 1 2 3, 1 3 -1", allScans(archive));
        PageArchive empty = Checks.loaded("quire 2;missing 0 1");
        Checks.refusesIndex("opening 1 before its sides", () -> empty.scanOpening(1));
        Checks.refusesState("neither side", () -> empty.scanOpening(0));
    }

    private static void scanSlip() {
        PageArchive archive = Checks.loaded("quire 2;slip 0 recto 1;slip 1 verso 2;slip 1 verso 1");
        archive.detach(2);
        Checks.refusesIndex("slip -1", () -> archive.scanSlip(-1, 0));
        Checks.refusesIndex("slip 3", () -> archive.scanSlip(3, 0));
        Checks.refusesIndex("side -1", () -> archive.scanSlip(1, -1));
        Checks.refusesIndex("side 2", () -> archive.scanSlip(1, 2));
        Checks.refusesIndex("side 1 of a slip with one", () -> archive.scanSlip(0, 1));
        Checks.refusesIndex("the side of a detached slip goes first", () -> archive.scanSlip(2, 1));
        Checks.refusesState("a detached slip", () -> archive.scanSlip(2, 0));
        Checks.is("scan 0", 0, archive.scanSlip(1, 1));
        Checks.is("scan 1", 1, archive.scanSlip(0, 0));
        Checks.is("scans", "2 1 1, 2 0 0", allScans(archive));
    }

    private static void atMostSixty() {
        PageArchive archive = Checks.loaded("quire 4;slip 0 recto 1;missing 3");
        for (int scan = 0; scan < 60; scan++) {
            Checks.is("scan", scan, archive.scanLeaf(2 - scan % 3, 1));
        }
        Checks.refusesState("a 61st leaf", () -> archive.scanLeaf(0, 0));
        Checks.refusesState("a 61st opening", () -> archive.scanOpening(0));
        Checks.refusesState("a 61st slip", () -> archive.scanSlip(0, 0));
        Checks.refusesIndex("the leaf goes first", () -> archive.scanLeaf(4, 0));
        Checks.refusesArgument("the side goes second", () -> archive.scanLeaf(0, 2));
        Checks.refusesIndex("the opening goes first", () -> archive.scanOpening(4));
        Checks.refusesIndex("the slip goes first", () -> archive.scanSlip(1, 0));
        Checks.is("scanCount", 60, archive.scanCount());
        Checks.is("inversions", 3 * (20 * 21 / 2), archive.inversions());
        Checks.is("needless", 57, archive.needless());
        Checks.is("movesToOrder", 60 - 20, archive.movesToOrder());
        Checks.is("moveScan to the end", 3 * (20 * 21 / 2) - 40, archive.moveScan(0, 59));
        archive.removeScan(0);
        Checks.is("room for one", 59, archive.scanOpening(0));
    }

    private static void removeScan() {
        PageArchive archive = Checks.loaded("quire 4;slip 0 recto 1");
        archive.scanLeaf(3, 1);
        archive.scanOpening(2);
        archive.scanSlip(0, 0);
        archive.scanLeaf(0, 1);
        Checks.refusesIndex("scan -1", () -> archive.removeScan(-1));
        Checks.refusesIndex("scan 4", () -> archive.removeScan(4));
        Checks.is("an opening", 1, archive.removeScan(1));
        Checks.is("the others", "0 3 1, 2 0 0, 0 0 1", allScans(archive));
        Checks.is("a slip", 2, archive.removeScan(1));
        Checks.is("the last one", 0, archive.removeScan(1));
        Checks.is("the only one", 0, archive.removeScan(0));
        Checks.is("none is left", 0, archive.scanCount());
        Checks.refusesIndex("no scan", () -> archive.removeScan(0));
    }

    private static void moveScan() {
        PageArchive archive = scanned("quire 6", 0, 1, 2, 3, 4);
        Checks.refusesIndex("scan -1", () -> archive.moveScan(-1, 0));
        Checks.refusesIndex("scan 5", () -> archive.moveScan(5, 0));
        Checks.refusesIndex("to -1", () -> archive.moveScan(0, -1));
        Checks.refusesIndex("to 5", () -> archive.moveScan(0, 5));
        Checks.is("no change", 5, archive.undoCount());
        Checks.is("backwards", 2, archive.moveScan(3, 1));
        Checks.is("scans", "0 0 0, 0 3 0, 0 1 0, 0 2 0, 0 4 0", allScans(archive));
        Checks.is("forwards", 6, archive.moveScan(0, 4));
        Checks.is("scans", "0 3 0, 0 1 0, 0 2 0, 0 4 0, 0 0 0", allScans(archive));
        Checks.is("to its own number", 6, archive.moveScan(2, 2));
        Checks.is("scans", "0 3 0, 0 1 0, 0 2 0, 0 4 0, 0 0 0", allScans(archive));
        Checks.is("a change without an effect", 8, archive.undoCount());
    }

    private static void sortScans() {
        Checks.is("no scans", 0, new PageArchive().sortScans());
        PageArchive archive = Checks.loaded("quire 6;slip 0 recto 1;slip 5 recto 2");
        archive.scanSlip(1, 1);
        archive.scanLeaf(4, 0);
        archive.scanSlip(0, 0);
        archive.scanLeaf(0, 1);
        archive.scanOpening(1);
        archive.scanSlip(1, 0);
        archive.scanLeaf(0, 1);
        archive.detach(1);
        Checks.is("sortScans", 7, archive.sortScans());
        Checks.is("scans", "2 0 0, 0 0 1, 1 0 1, 0 0 1, 0 4 0, 2 1 1, 2 1 0", allScans(archive));
        Checks.is("inversions", 0, archive.inversions());
        int undo = archive.undoCount();
        Checks.is("sorted scans stay", 0, archive.sortScans());
        Checks.is("which is a change", Math.min(undo + 1, 8), archive.undoCount());
        archive.moveScan(0, 1);
        Checks.is("two change their numbers", 2, archive.sortScans());
        Checks.is("three of four", 3, scanned("quire 6", 0, 5, 1, 2).sortScans());
    }

    private static void numbersOfScans() {
        PageArchive archive = Checks.loaded("quire 4;slip 0 recto 2;slip 2 verso 1");
        Checks.is("scanCount", 0, archive.scanCount());
        archive.scanLeaf(1, 1);
        archive.scanOpening(3);
        archive.scanSlip(0, 1);
        archive.scanOpening(0);
        archive.scanOpening(4);
        int none = PageArchive.NONE;
        int[][] due = {{0, 5, 1, 1}, {1, 7, 2, 3}, {2, 2, 0, 1}, {1, 0, none, 0}, {1, 10, 3, none}};
        Checks.is("scanCount", due.length, archive.scanCount());
        for (int scan = 0; scan < due.length; scan++) {
            for (int what = 0; what < 4; what++) {
                Checks.is("scan " + scan + ", " + what, due[scan][what], archive.scan(scan, what));
            }
        }
        Checks.refusesIndex("scan -1 before what", () -> archive.scan(-1, 4));
        Checks.refusesIndex("scan 5 before what", () -> archive.scan(5, 4));
        Checks.refusesArgument("what -1", () -> archive.scan(0, -1));
        Checks.refusesArgument("what 4", () -> archive.scan(0, 4));
    }

    private static void placesChange() {
        PageArchive archive = Checks.loaded("quire 4;slip 1 recto 1");
        archive.scanOpening(3);
        archive.scanLeaf(3, 0);
        archive.scanSlip(0, 0);
        archive.lose(2);
        Checks.is("an opening keeps its right side", 5, archive.scan(0, 1));
        archive.lose(3);
        Checks.is("an opening without its sides", PageArchive.NONE, archive.scan(0, 1));
        Checks.is("a lost leaf", PageArchive.NONE, archive.scan(1, 1));
        Checks.is("its number stays", 3, archive.scan(1, 2));
        Checks.is("the left leaf stays", 2, archive.scan(0, 2));
        archive.find(2);
        Checks.is("an opening with its left side", 6, archive.scan(0, 1));
        archive.detach(0);
        Checks.is("a detached slip", PageArchive.NONE, archive.scan(2, 1));
        archive.find(3);
        Checks.is("a found leaf", 6, archive.scan(1, 1));
        Checks.is("both sides", 5, archive.scan(0, 1));
    }

    private static void covering() {
        PageArchive archive = Checks.loaded("quire 4;slip 0 verso 2;missing 3");
        archive.scanOpening(1);
        archive.scanLeaf(1, 0);
        archive.scanSlip(0, 1);
        archive.scanLeaf(2, 1);
        int[] due = {0, 1, 0, 1, 2, 0, 0, 1};
        for (int place = 0; place < due.length; place++) {
            Checks.is("showing " + place, due[place], archive.showing(place));
        }
        Checks.refusesIndex("showing -1", () -> archive.showing(-1));
        Checks.refusesIndex("showing 8", () -> archive.showing(8));
        Checks.is("uncovered", 4, archive.uncovered());
        int[] next = {0, 2, 2, 5, 5, 5, 6, PageArchive.NONE, PageArchive.NONE};
        for (int from = 0; from < next.length; from++) {
            Checks.is("nextUncovered " + from, next[from], archive.nextUncovered(from));
        }
        Checks.refusesArgument("from -1", () -> archive.nextUncovered(-1));
        Checks.refusesArgument("from 9", () -> archive.nextUncovered(9));
        archive.lose(1);
        Checks.is("the places move up", 0, archive.showing(4));
        Checks.is("the right side is not shown by the opening", 1, archive.showing(5));
        archive.detach(0);
        archive.lose(0);
        archive.lose(2);
        Checks.is("nothing is left to cover", 0, archive.uncovered());
        Checks.is("nor to find", PageArchive.NONE, archive.nextUncovered(0));
        Checks.refusesIndex("nor a place", () -> archive.showing(0));
    }

    private static void needless() {
        Checks.is("no scans", 0, new PageArchive().needless());
        PageArchive archive = Checks.loaded("quire 4;slip 0 recto 1");
        archive.scanLeaf(0, 1);
        archive.scanLeaf(1, 0);
        Checks.is("each is needed", 0, archive.needless());
        archive.scanOpening(1);
        Checks.is("the later one goes", 1, archive.needless());
        archive.moveScan(2, 0);
        Checks.is("both sides are shown by an earlier one", 2, archive.needless());
        archive.removeScan(1);
        Checks.is("one side is", 1, archive.needless());
        archive.moveScan(0, 1);
        Checks.is("the left side is shown by the opening alone, so the leaf goes", 1, archive.needless());
        archive.scanSlip(0, 0);
        Checks.is("a slip is shown by its own scan alone", 1, archive.needless());
        archive.detach(0);
        Checks.is("without a place it is needless", 2, archive.needless());
        PageArchive same = scanned("quire 4", 2, 2, 2);
        Checks.is("one of three stays", 2, same.needless());
        PageArchive chain = Checks.loaded("quire 4");
        chain.scanLeaf(1, 1);
        chain.scanOpening(2);
        chain.scanLeaf(2, 0);
        Checks.is("the leaves go one by one, from the last one on", 2, chain.needless());
    }

    private static void orders() {
        PageArchive archive = scanned("quire 12", 3, 5, 4, 8, 9, 1, 7, 6);
        Checks.is("inversions", 1 + 5 + 2 + 3, archive.inversions());
        Checks.is("movesToOrder", 4, archive.movesToOrder());
        Checks.is("longestRun", 3, archive.longestRun());
        Checks.is("firstMisplaced", 2, archive.firstMisplaced());
        archive.lose(4);
        Checks.is("inversions of the placed ones", 4 + 2 + 3, archive.inversions());
        Checks.is("moves of the placed ones", 3, archive.movesToOrder());
        Checks.is("a run goes on behind one without a place", 4, archive.longestRun());
        Checks.is("the number counts all scans", 5, archive.firstMisplaced());
        archive.lose(1);
        archive.lose(7);
        archive.lose(6);
        Checks.is("no inversion", 0, archive.inversions());
        Checks.is("no moves", 0, archive.movesToOrder());
        Checks.is("all placed ones", 4, archive.longestRun());
        Checks.refuses("firstMisplaced", java.util.NoSuchElementException.class, archive::firstMisplaced);
        PageArchive falling = scanned("quire 12", 9, 7, 5, 3, 1);
        Checks.is("inversions", 10, falling.inversions());
        Checks.is("movesToOrder", 4, falling.movesToOrder());
        Checks.is("longestRun", 1, falling.longestRun());
        Checks.is("firstMisplaced", 1, falling.firstMisplaced());
        PageArchive last = scanned("quire 12", 1, 2, 3, 0, 4, 5, 6, 7);
        Checks.is("the latest run", 5, last.longestRun());
        Checks.is("one move", 1, last.movesToOrder());
    }

    private static void ordersOfEqualPlaces() {
        PageArchive archive = Checks.loaded("quire 4");
        archive.scanLeaf(1, 1);
        archive.scanOpening(2);
        archive.scanLeaf(1, 1);
        archive.scanLeaf(2, 0);
        Checks.is("inversions", 0, archive.inversions());
        Checks.is("movesToOrder", 0, archive.movesToOrder());
        Checks.is("longestRun", 4, archive.longestRun());
        archive.scanOpening(2);
        Checks.is("an inversion with the right side", 1, archive.inversions());
        Checks.is("firstMisplaced", 4, archive.firstMisplaced());
    }

    private static void ordersWithoutScans() {
        PageArchive archive = new PageArchive();
        Checks.is("inversions", 0, archive.inversions());
        Checks.is("movesToOrder", 0, archive.movesToOrder());
        Checks.is("longestRun", 0, archive.longestRun());
        Checks.refuses("firstMisplaced", java.util.NoSuchElementException.class, archive::firstMisplaced);
        archive.scanLeaf(0, 0);
        archive.lose(0);
        Checks.is("longestRun without placed scans", 0, archive.longestRun());
        Checks.is("movesToOrder without placed scans", 0, archive.movesToOrder());
    }

    /** A setup is changed just before each question, so that no earlier answer can stand in. */
    private static void answersFollowTheLeaves() {
        PageArchive archive = scanned("quire 4", 2, 1, 0);
        archive.lose(1);
        Checks.is("inversions", 1, archive.inversions());
        archive.find(1);
        Checks.is("movesToOrder", 2, archive.movesToOrder());
        archive.lose(2);
        Checks.is("firstMisplaced", 2, archive.firstMisplaced());
        archive.find(2);
        Checks.is("firstMisplaced", 1, archive.firstMisplaced());
        archive.scanLeaf(3, 0);
        Checks.is("longestRun", 2, archive.longestRun());
        archive.removeScan(2);
        Checks.is("nextUncovered", 0, archive.nextUncovered(0));
        archive.undo();
        Checks.is("nextUncovered", 1, archive.nextUncovered(0));
        archive.lose(0);
        Checks.is("needless", 1, archive.needless());
        archive.find(0);
        Checks.is("uncovered", 4, archive.uncovered());
        archive.lose(1);
        Checks.is("sortScans", 4, archive.sortScans());
        archive.find(1);
        Checks.is("place", 2, archive.scan(3, 1));
    }
}
