import java.util.NoSuchElementException;

/** Sections 5 and 6 and the promises 11 to 16 and 36 to 45: no scans, one, 60, and scans without a place. */
public final class ScanLimitsTest {
    private static final int NONE = PageArchive.NONE;

    public static void main(String[] args) {
        withoutScans();
        oneScan();
        sixtyOfLeaves();
        sixtyOfOpenings();
        sixtyOfSlips();
        roomAgain();
        openingsWithOneSide();
        openingsStayTheSame();
        slipsOnAnOpeningAreNotShown();
        leastPlace();
        withoutAPlace();
        removeAtTheEnds();
        moveAtTheEnds();
        sortWithEqualPlaces();
        sortWithoutPlaces();
        sortOfEveryOrder();
        askedRightAfterAChange();
        sixtyFallingScans();
        equalPlacesAreNoInversion();
        runsAtTheEnds();
        firstMisplacedAtTheEnds();
        everyPlaceCovered();
        needlessAtTheEnds();
        Checks.end();
    }

    private static PageArchive empty() {
        return Checks.loaded("quire 4");
    }

    private static void isOrder(PageArchive archive, int inversions, int moves, int run) {
        Checks.is("inversions", inversions, archive.inversions());
        Checks.is("movesToOrder", moves, archive.movesToOrder());
        Checks.is("longestRun", run, archive.longestRun());
    }

    private static void isInOrder(PageArchive archive) {
        Checks.refuses("firstMisplaced", NoSuchElementException.class, archive::firstMisplaced);
    }

    /** "Returns the number; 0 without placed scans." */
    private static void withoutScans() {
        PageArchive archive = empty();
        Checks.is("scanCount", 0, archive.scanCount());
        isOrder(archive, 0, 0, 0);
        isInOrder(archive);
        Checks.is("needless", 0, archive.needless());
        Checks.is("uncovered", 8, archive.uncovered());
        Checks.is("showing", 0, archive.showing(7));
        Checks.is("nextUncovered", 0, archive.nextUncovered(0));
        Checks.is("sortScans", 0, archive.sortScans());
        Checks.is("which is a change", 1, archive.undoCount());
        Checks.refusesIndex("scan", () -> archive.scan(0, 0));
        Checks.refusesIndex("removeScan", () -> archive.removeScan(0));
        Checks.refusesIndex("moveScan", () -> archive.moveScan(0, 0));
    }

    private static void oneScan() {
        PageArchive archive = empty();
        Checks.is("its number", 0, archive.scanLeaf(3, 1));
        isOrder(archive, 0, 0, 1);
        isInOrder(archive);
        Checks.is("needless", 0, archive.needless());
        Checks.is("uncovered", 7, archive.uncovered());
        Checks.is("sortScans", 0, archive.sortScans());
        Checks.is("moveScan", 0, archive.moveScan(0, 0));
        Checks.is("removeScan", 0, archive.removeScan(0));
        Checks.is("scanCount", 0, archive.scanCount());
        isOrder(archive, 0, 0, 0);
    }

    /** "There are at most 60 scans, numbered from 0 in their order." */
    private static void sixtyOfLeaves() {
        PageArchive archive = Checks.loaded("quire 12;quire 12;quire 12;quire 12;quire 12");
        for (int scan = 0; scan < 60; scan++) {
            Checks.is("scanLeaf", scan, archive.scanLeaf(scan, 0));
        }
        Checks.is("scanCount", 60, archive.scanCount());
        Checks.refusesState("a 61st scan of a leaf", () -> archive.scanLeaf(0, 1));
        Checks.refusesState("a 61st scan of an opening", () -> archive.scanOpening(60));
        Checks.is("the last one", 59, archive.scan(59, 2));
        Checks.refusesIndex("there is no scan 60", () -> archive.scan(60, 2));
        isOrder(archive, 0, 0, 60);
        Checks.is("uncovered", 60, archive.uncovered());
        Checks.is("needless", 0, archive.needless());
    }

    private static void sixtyOfOpenings() {
        PageArchive archive = empty();
        for (int scan = 0; scan < 60; scan++) {
            Checks.is("scanOpening", scan, archive.scanOpening(scan % 5));
        }
        Checks.refusesState("a 61st scan of an opening", () -> archive.scanOpening(0));
        Checks.is("scanCount", 60, archive.scanCount());
        Checks.is("uncovered", 0, archive.uncovered());
        Checks.is("needless", 55, archive.needless());
        Checks.is("showing", 12, archive.showing(0));
    }

    private static void sixtyOfSlips() {
        PageArchive archive = Checks.loaded("quire 2;slip 1 verso 2");
        for (int scan = 0; scan < 60; scan++) {
            Checks.is("scanSlip", scan, archive.scanSlip(0, scan % 2));
        }
        Checks.refusesState("a 61st scan of a slip", () -> archive.scanSlip(0, 0));
        Checks.is("scanCount", 60, archive.scanCount());
        Checks.is("needless", 58, archive.needless());
        archive.detach(0);
        Checks.is("all are without a place", 60, archive.needless());
        isOrder(archive, 0, 0, 0);
        Checks.refusesState("they count still", () -> archive.scanLeaf(0, 0));
        Checks.is("sortScans", 0, archive.sortScans());
    }

    private static void roomAgain() {
        PageArchive archive = Makers.sixtyScans();
        archive.removeScan(59);
        Checks.is("a removed one makes room", 59, archive.scanLeaf(0, 1));
        Checks.refusesState("for one alone", () -> archive.scanLeaf(0, 0));
        archive.undo();
        Checks.is("an undone one makes room", 59, archive.scanSlip(0, 0));
        Checks.refusesState("for one alone", () -> archive.scanSlip(0, 0));
        archive.removeScan(0);
        Checks.is("the first one removed", 59, archive.scanOpening(0));
        Checks.refusesState("makes room for one alone", () -> archive.scanOpening(0));
    }

    /** "the sides on its left and on its right, as far as it has them" */
    private static void openingsWithOneSide() {
        PageArchive archive = empty();
        archive.scanOpening(0);
        archive.scanOpening(4);
        int[] first = {1, 0, NONE, 0};
        int[] last = {1, 7, 3, NONE};
        for (int what = 0; what < 4; what++) {
            Checks.is("the first opening, " + what, first[what], archive.scan(0, what));
            Checks.is("the last opening, " + what, last[what], archive.scan(1, what));
        }
        Checks.is("they show two sides", 6, archive.uncovered());
        PageArchive single = Checks.loaded("quire 2;missing 0");
        single.scanOpening(0);
        single.scanOpening(1);
        Checks.is("both sides of a single leaf", 0, single.uncovered());
        Checks.is("each by one scan", 1, single.showing(1));
    }

    /** "these stay the same if the openings change later" */
    private static void openingsStayTheSame() {
        PageArchive archive = Checks.loaded("quire 4;missing 1 2");
        archive.scanOpening(1);
        archive.find(1);
        archive.find(2);
        Checks.is("left", 0, archive.scan(0, 2));
        Checks.is("right", 3, archive.scan(0, 3));
        Checks.is("the left side is shown", 1, archive.showing(1));
        Checks.is("the side that lies beside it now is not", 0, archive.showing(2));
        Checks.is("the right side is shown", 1, archive.showing(6));
        Checks.is("the leaf before it is not", 0, archive.showing(5));
        archive.lose(0);
        archive.lose(3);
        Checks.is("a lost left leaf stays", 0, archive.scan(0, 2));
        Checks.is("a lost right leaf stays", 3, archive.scan(0, 3));
    }

    /** "the slips on them are not shown" */
    private static void slipsOnAnOpeningAreNotShown() {
        PageArchive archive = Checks.loaded("quire 2;slip 0 verso 2;slip 1 recto 1");
        archive.scanOpening(1);
        int[] due = {0, 1, 0, 0, 1, 0, 0};
        for (int place = 0; place < due.length; place++) {
            Checks.is("showing " + place, due[place], archive.showing(place));
        }
        Checks.is("uncovered", 5, archive.uncovered());
    }

    /** "the least place of the sides that it shows; sides that are not in the reading order now do not count" */
    private static void leastPlace() {
        PageArchive archive = empty();
        archive.scanOpening(2);
        Checks.is("both sides", 3, archive.scan(0, 1));
        archive.lose(1);
        Checks.is("the right side alone", 2, archive.scan(0, 1));
        Checks.is("it is shown there", 1, archive.showing(2));
        Checks.is("the side before is not", 0, archive.showing(1));
        archive.find(1);
        archive.lose(2);
        Checks.is("the left side alone", 3, archive.scan(0, 1));
        Checks.is("the side behind is not shown", 0, archive.showing(4));
        archive.lose(0);
        Checks.is("the places move up", 1, archive.scan(0, 1));
    }

    /** "It has no place if there is none." */
    private static void withoutAPlace() {
        PageArchive archive = Checks.loaded("quire 4;slip 0 recto 1");
        archive.scanOpening(2);
        archive.scanLeaf(1, 0);
        archive.scanSlip(0, 0);
        archive.lose(1);
        archive.lose(2);
        archive.detach(0);
        for (int scan = 0; scan < 3; scan++) {
            Checks.is("scan " + scan, NONE, archive.scan(scan, 1));
        }
        isOrder(archive, 0, 0, 0);
        isInOrder(archive);
        Checks.is("they are counted", 3, archive.needless());
        Checks.is("they cover nothing", 4, archive.uncovered());
        Checks.is("their kinds stay", 2, archive.scan(2, 0));
        Checks.is("the slip stays", 0, archive.scan(2, 2));
        archive.scanLeaf(0, 0);
        isOrder(archive, 0, 0, 1);
        Checks.is("one with a place goes to the front", 4, archive.sortScans());
        Checks.is("its kind", 0, archive.scan(0, 0));
        Checks.is("its place", 0, archive.scan(0, 1));
        Checks.is("the others keep their order", 1, archive.scan(1, 0));
    }

    private static String rectos(PageArchive archive) {
        StringBuilder all = new StringBuilder();
        for (int scan = 0; scan < archive.scanCount(); scan++) {
            all.append(archive.scan(scan, 2));
        }
        return all.toString();
    }

    /** "those behind it move one place to the front" */
    private static void removeAtTheEnds() {
        PageArchive archive = Makers.scanned(3, 1, 0, 2);
        archive.removeScan(0);
        Checks.is("the first one", "102", rectos(archive));
        archive.removeScan(2);
        Checks.is("the last one", "10", rectos(archive));
        archive.removeScan(1);
        archive.removeScan(0);
        Checks.is("none is left", "", rectos(archive));
        PageArchive kinds = Checks.loaded("quire 2;slip 0 recto 2");
        kinds.scanLeaf(1, 1);
        kinds.scanOpening(2);
        kinds.scanSlip(0, 1);
        Checks.is("the kind of a slip's scan", 2, kinds.removeScan(2));
        Checks.is("the kind of a leaf's scan", 0, kinds.removeScan(0));
        Checks.is("the kind of an opening's scan", 1, kinds.removeScan(0));
    }

    /** "the others keep their order" */
    private static void moveAtTheEnds() {
        int[][] moves = {{0, 3}, {3, 0}, {0, 0}, {3, 3}, {0, 1}, {1, 0}, {2, 3}, {3, 2}, {1, 2}};
        String[] due = {"1230", "3012", "0123", "0123", "1023", "1023", "0132", "0132", "0213"};
        int[] inversions = {3, 3, 0, 0, 1, 1, 1, 1, 1};
        for (int i = 0; i < moves.length; i++) {
            PageArchive archive = Makers.scanned(0, 1, 2, 3);
            Checks.is("moveScan", inversions[i], archive.moveScan(moves[i][0], moves[i][1]));
            Checks.is("scan " + moves[i][0] + " to " + moves[i][1], due[i], rectos(archive));
            Checks.is("a change", 5, archive.undoCount());
        }
    }

    /** "scans that are equal by this keep their order" */
    private static void sortWithEqualPlaces() {
        PageArchive archive = empty();
        archive.scanLeaf(0, 1);
        archive.scanOpening(1);
        archive.scanLeaf(0, 1);
        archive.scanLeaf(0, 0);
        archive.scanOpening(1);
        Checks.is("the first three and the recto change", 4, archive.sortScans());
        int[] kinds = {0, 0, 1, 0, 1};
        for (int scan = 0; scan < kinds.length; scan++) {
            Checks.is("the kind of scan " + scan, kinds[scan], archive.scan(scan, 0));
        }
        Checks.is("sorted ones stay", 0, archive.sortScans());
        PageArchive all = Checks.loaded("quire 2");
        for (int scan = 0; scan < 60; scan++) {
            all.scanLeaf(0, 1);
        }
        Checks.is("60 equal ones stay", 0, all.sortScans());
    }

    /** "first the placed ones by their places, then the others" */
    private static void sortWithoutPlaces() {
        PageArchive archive = Makers.scanned(3, 2, 1, 0, 3);
        archive.lose(3);
        archive.lose(1);
        Checks.is("sortScans", 3, archive.sortScans());
        Checks.is("those without a place keep their order", "02313", rectos(archive));
        archive.lose(0);
        archive.lose(2);
        Checks.is("none has a place", 0, archive.sortScans());
        Checks.is("all keep their order", "02313", rectos(archive));
    }

    /** All orders of four scans, of which two may be equal. */
    private static void sortOfEveryOrder() {
        for (int code = 0; code < 256; code++) {
            int[] leaves = {code / 64, code / 16 % 4, code / 4 % 4, code % 4};
            int[] sorted = leaves.clone();
            java.util.Arrays.sort(sorted);
            int moved = 0;
            boolean[] isTaken = new boolean[4];
            for (int scan = 0; scan < 4; scan++) {
                int from = 0;
                while (isTaken[from] || leaves[from] != sorted[scan]) {
                    from++;
                }
                isTaken[from] = true;
                moved += from == scan ? 0 : 1;
            }
            PageArchive archive = Makers.scanned(leaves);
            Checks.is("sortScans of " + code, moved, archive.sortScans());
            Checks.is("sorted " + code, "" + sorted[0] + sorted[1] + sorted[2] + sorted[3], rectos(archive));
        }
    }

    /** Each answer is of the scans and leaves of now, whatever was asked before the change. */
    private static void askedRightAfterAChange() {
        Scene.Use[] questions = {x -> x.placeCount(), x -> x.uncovered(), x -> x.needless(), x -> x.inversions(),
            x -> x.movesToOrder(), x -> x.longestRun(), x -> x.firstMisplaced(), x -> x.sortScans(), x -> x.moveScan(0, 1),
            x -> x.nextUncovered(3), x -> x.opening(0, 4), x -> x.showing(1), x -> x.scan(3, 1), x -> x.placeOf(3, 1),
            x -> x.sideAt(3, 0), x -> x.goTo(3), x -> x.sameLabels(0), x -> x.findLabel(5), x -> x.formatLabel(2)};
        // The places of the scans are none, 4, 2 and 2.
        int[] due = {6, 4, 2, 2, 1, 2, 2, 4, 2, 3, 0, 0, 2, 5, 2, 2, 6, 5, 0};
        for (int i = 0; i < questions.length; i++) {
            PageArchive archive = Makers.scanned(1, 3, 2, 2);
            archive.inversions();
            archive.lose(1);
            Checks.is("question " + i, due[i], questions[i].on(archive));
            PageArchive first = Makers.scanned(1, 3, 2, 2);
            first.lose(1);
            Checks.is("question " + i + ", the first one", due[i], questions[i].on(first));
        }
    }

    private static void sixtyFallingScans() {
        PageArchive archive = Checks.loaded("quire 12;quire 12;quire 12;quire 12;quire 12");
        for (int leaf = 59; leaf >= 0; leaf--) {
            archive.scanLeaf(leaf, 1);
        }
        isOrder(archive, 60 * 59 / 2, 59, 1);
        Checks.is("firstMisplaced", 1, archive.firstMisplaced());
        Checks.is("moveScan", 60 * 59 / 2 - 59, archive.moveScan(59, 0));
        archive.undo();
        Checks.is("all change their numbers", 60, archive.sortScans());
        isOrder(archive, 0, 0, 60);
        isInOrder(archive);
        Checks.is("the first one", 0, archive.scan(0, 2));
        Checks.is("the last one", 59, archive.scan(59, 2));
        Checks.is("sorted ones stay", 0, archive.sortScans());
    }

    /** "the later one has a lower place": an equal place is none. */
    private static void equalPlacesAreNoInversion() {
        PageArchive archive = Makers.scanned(1, 1, 1);
        isOrder(archive, 0, 0, 3);
        isInOrder(archive);
        PageArchive mixed = Makers.scanned(1, 1, 0, 0, 1);
        isOrder(mixed, 4, 2, 3);
        Checks.is("firstMisplaced", 2, mixed.firstMisplaced());
        PageArchive lower = empty();
        lower.scanLeaf(0, 1);
        lower.scanLeaf(0, 0);
        Checks.is("a place 1 lower is one", 1, lower.inversions());
    }

    /** "the greatest number of placed scans one after the other (those without a place left out)" */
    private static void runsAtTheEnds() {
        Checks.is("a run at the front", 3, Makers.scanned(1, 2, 3, 0).longestRun());
        Checks.is("a run at the end", 3, Makers.scanned(3, 0, 1, 2).longestRun());
        Checks.is("a run between", 2, Makers.scanned(3, 1, 2, 0).longestRun());
        Checks.is("two runs of one length", 2, Makers.scanned(2, 3, 0, 1).longestRun());
        Checks.is("runs of one", 1, Makers.scanned(3, 2, 1, 0).longestRun());
        PageArchive archive = Makers.scanned(2, 0, 3, 0, 3);
        archive.lose(0);
        isOrder(archive, 0, 0, 3);
        archive.find(0);
        isOrder(archive, 3, 2, 2);
        archive.lose(2);
        archive.lose(3);
        isOrder(archive, 0, 0, 2);
    }

    /** "the first scan that forms an inversion with an earlier one" */
    private static void firstMisplacedAtTheEnds() {
        Checks.is("the second one", 1, Makers.scanned(1, 0).firstMisplaced());
        Checks.is("the last one", 3, Makers.scanned(1, 2, 3, 0).firstMisplaced());
        Checks.is("not with the one just before", 3, Makers.scanned(2, 3, 3, 2).firstMisplaced());
        Checks.is("with the first one alone", 2, Makers.scanned(1, 1, 0).firstMisplaced());
        PageArchive archive = Makers.scanned(3, 0, 1);
        archive.lose(0);
        Checks.is("one without a place is passed over", 2, archive.firstMisplaced());
        archive.find(0);
        archive.lose(3);
        isInOrder(archive);
    }

    private static void everyPlaceCovered() {
        PageArchive archive = Checks.loaded("quire 2;slip 1 verso 1");
        archive.scanOpening(0);
        archive.scanOpening(1);
        archive.scanOpening(2);
        Checks.is("the slip alone is not covered", 1, archive.uncovered());
        Checks.is("it is the last place", 4, archive.nextUncovered(0));
        Checks.is("from the place itself", 4, archive.nextUncovered(4));
        archive.scanSlip(0, 0);
        Checks.is("all are covered", 0, archive.uncovered());
        for (int from = 0; from <= 5; from++) {
            Checks.is("none behind " + from, NONE, archive.nextUncovered(from));
        }
        Checks.refusesArgument("6 is too much", () -> archive.nextUncovered(6));
        archive.attach(0, 0, 1);
        Checks.is("a new slip is not covered", 1, archive.nextUncovered(0));
    }

    /** "shown by a scan with a lower number, or by one with a higher number that is not counted" */
    private static void needlessAtTheEnds() {
        Checks.is("two of the same", 1, Makers.scanned(0, 0).needless());
        PageArchive higher = empty();
        higher.scanLeaf(0, 1);
        higher.scanOpening(1);
        Checks.is("the opening is needed, so the leaf before it is not", 1, higher.needless());
        PageArchive counted = empty();
        counted.scanLeaf(0, 1);
        counted.scanLeaf(0, 1);
        Checks.is("a higher one that is counted does not help", 1, counted.needless());
        PageArchive half = empty();
        half.scanOpening(1);
        half.scanLeaf(0, 1);
        Checks.is("one side of the opening is shown by it alone", 1, half.needless());
        half.lose(1);
        Checks.is("without that side one of the two goes still", 1, half.needless());
        half.lose(0);
        Checks.is("without a place both go", 2, half.needless());
        PageArchive both = empty();
        both.scanOpening(1);
        both.scanLeaf(0, 1);
        both.scanLeaf(1, 0);
        both.scanOpening(1);
        Checks.is("all but the first one", 3, both.needless());
    }
}
