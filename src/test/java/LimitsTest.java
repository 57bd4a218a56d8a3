/**
 * Sections 1 and 2, and the indices of all calls: the smallest and the largest
 * number that is taken. RefusalsTest has the first ones that are refused, in the
 * same scene.
 */
public final class LimitsTest {
    private static final int NONE = PageArchive.NONE;
    private static final String SIXTY = "quire 12;quire 12;quire 12;quire 12;quire 12";

    private static final Scene BUSY = new Scene("busy", Makers::busy);
    private static final Scene PLAIN = new Scene("plain", () -> Checks.loaded("quire 4;quire 2"));
    private static final Scene ENDS = new Scene("ends", () -> Checks.loaded("quire 4;quire 2;missing 0;missing 5"));
    private static final Scene BARE = new Scene("bare", () -> Checks.loaded("quire 2;missing 0 1"));
    private static final Scene SLIPS = new Scene("12 slips", Makers::twelveSlips);
    private static final Scene SCANS = new Scene("60 scans", Makers::sixtyScans);

    public static void main(String[] args) {
        oneToEightQuires();
        twoToTwelveLeavesInAQuire();
        sixtyLeavesTogether();
        conjugateLeaves();
        twelveSlips();
        slipNumbersAreNotUsedAgain();
        oneOrTwoSidesOfASlip();
        slipsOnASideByTheirNumbers();
        emptyReadingOrder();
        fullReadingOrder();
        changesOfLeavesAndSlips();
        changesOfScansAndView();
        numbersOfLeavesAndSlips();
        placesAndOpenings();
        numbersOfScans();
        largestArchive();
        shortestAndLongestCollation();
        Checks.end();
    }

    /** "A volume has 1 to 8 quires, numbered from 0" */
    private static void oneToEightQuires() {
        PageArchive one = Checks.loaded("quire 2");
        Checks.is("one quire", 1, one.volume(0));
        Checks.is("its number", 0, one.leaf(0, 1));
        Checks.is("its last leaf", 0, one.leaf(1, 1));
        PageArchive eight = Checks.loaded("quire 2" + ";quire 2".repeat(7));
        Checks.is("eight quires", 8, eight.volume(0));
        Checks.is("leaves", 16, eight.volume(1));
        for (int leaf = 0; leaf < 16; leaf++) {
            Checks.is("the quire of leaf " + leaf, leaf / 2, eight.leaf(leaf, 1));
            Checks.is("its index there", leaf % 2, eight.leaf(leaf, 2));
        }
        PageArchive archive = new PageArchive();
        Checks.type(archive, "quire 2" + ";quire 2".repeat(8));
        Checks.is("no ninth quire", 64, archive.errorPosition());
        archive.truncate(0);
        Checks.is("not without a quire", 0, archive.errorPosition());
    }

    /** "each with 2 to 12 leaves (an even number)" */
    private static void twoToTwelveLeavesInAQuire() {
        PageArchive archive = new PageArchive();
        for (int leaves = 0; leaves <= 15; leaves++) {
            archive.truncate(0);
            Checks.type(archive, "quire " + leaves);
            boolean isTaken = leaves >= 2 && leaves <= 12 && leaves % 2 == 0;
            Checks.is("a quire of " + leaves, isTaken ? NONE : 6, archive.errorPosition());
            if (isTaken) {
                Checks.is("load", leaves, archive.load());
                Checks.is("leaves", leaves, archive.volume(1));
                Checks.is("present leaves", leaves, archive.volume(2));
                Checks.is("the last leaf", leaves - 1, archive.leaf(leaves - 1, 2));
            }
        }
    }

    /** "at most 60 leaves together. The leaves are numbered from 0 through all quires." */
    private static void sixtyLeavesTogether() {
        PageArchive archive = Checks.loaded(SIXTY);
        Checks.is("leaves", 60, archive.volume(1));
        Checks.is("the quire of the last leaf", 4, archive.leaf(59, 1));
        Checks.is("its index there", 11, archive.leaf(59, 2));
        Checks.is("the first leaf of the last quire", 0, archive.leaf(48, 2));
        Checks.is("the last leaf of the quire before", 11, archive.leaf(47, 2));
        Checks.refusesIndex("leaf 60", () -> archive.leaf(60, 0));
        Checks.type(archive, SIXTY + ";quire 2");
        Checks.is("62 leaves", 51, archive.errorPosition());
        archive.truncate(0);
        Checks.type(archive, "quire 8;quire 8;quire 8;quire 8;quire 8;quire 8;quire 8;quire 4");
        Checks.is("60 leaves in eight quires", 60, archive.load());
        Checks.is("the last leaf", 7, archive.leaf(59, 1));
        Checks.type(archive, "quire 8;quire 8;quire 8;quire 8;quire 8;quire 8;quire 8;quire 6");
        Checks.is("62 leaves in eight quires", 62, archive.errorPosition());
        archive.truncate(0);
        Checks.type(archive, "quire 12;quire 12;quire 12;quire 12;quire 10;quire 4");
        Checks.is("62 leaves by a quire of 4", 51, archive.errorPosition());
        archive.truncate(0);
        Checks.type(archive, "quire 12;quire 12;quire 12;quire 12;quire 10");
        Checks.is("58 leaves", 58, archive.load());
    }

    /** "the leaf with the index i in it (from 0) and the one with the index n - 1 - i are conjugate" */
    private static void conjugateLeaves() {
        PageArchive archive = Checks.loaded("quire 2;quire 12;quire 4;missing 13");
        int[] leaves = {0, 1, 2, 13, 7, 8, 14, 17, 15, 16};
        for (int i = 0; i < leaves.length; i++) {
            Checks.is("the conjugate of " + leaves[i], leaves[i ^ 1], archive.leaf(leaves[i], 3));
        }
    }

    /** "There are at most 12 slips, numbered from 0" */
    private static void twelveSlips() {
        PageArchive archive = Checks.loaded("quire 12");
        Checks.is("no slips", 0, archive.volume(3));
        Checks.is("none attached", 0, archive.volume(4));
        for (int slip = 0; slip < 12; slip++) {
            Checks.is("attach", slip, archive.attach(slip, slip % 2, 1 + slip % 2));
            Checks.is("its leaf", slip, archive.slip(slip, 0));
        }
        Checks.is("slips", 12, archive.volume(3));
        Checks.is("attached ones", 12, archive.volume(4));
        Checks.refusesState("a 13th slip", () -> archive.attach(0, 0, 1));
        PageArchive mixed = Checks.loaded("quire 2" + ";slip 1 verso 2".repeat(11));
        Checks.is("a 12th one behind those of the text", 11, mixed.attach(0, 0, 1));
        Checks.refusesState("a 13th one behind those of the text", () -> mixed.attach(0, 0, 1));
        mixed.undo();
        Checks.is("an undone slip makes room", 11, mixed.attach(0, 0, 2));
    }

    /** "a number is not used again" */
    private static void slipNumbersAreNotUsedAgain() {
        PageArchive archive = new PageArchive();
        for (int slip = 0; slip < 12; slip++) {
            Checks.is("attach", slip, archive.attach(0, 0, 1));
            Checks.is("detach it at once", 0, archive.detach(slip));
        }
        Checks.refusesState("all are detached, and all are used", () -> archive.attach(0, 0, 1));
        Checks.is("slips", 12, archive.volume(3));
        Checks.is("attached ones", 0, archive.volume(4));
        Checks.is("the last number", 1, archive.slip(11, 2));
    }

    /** "A slip has one or two sides (numbered 0 and 1)" */
    private static void oneOrTwoSidesOfASlip() {
        PageArchive archive = new PageArchive();
        archive.attach(0, 0, 1);
        Checks.is("a slip of one side", 5, archive.placeCount());
        archive.attach(0, 0, 2);
        Checks.is("a slip of two sides", 7, archive.placeCount());
        Checks.is("scan of the only side", 0, archive.scanSlip(0, 0));
        Checks.refusesIndex("it has no side 1", () -> archive.scanSlip(0, 1));
        Checks.is("scan of side 0", 1, archive.scanSlip(1, 0));
        Checks.is("scan of side 1", 2, archive.scanSlip(1, 1));
        Checks.refusesIndex("there is no side 2", () -> archive.scanSlip(1, 2));
    }

    /** "The slips on a side of a leaf are ordered by their numbers." */
    private static void slipsOnASideByTheirNumbers() {
        PageArchive archive = Checks.loaded("quire 2;slip 1 recto 1;slip 0 verso 1;slip 1 recto 2;slip 0 verso 1");
        archive.attach(1, 0, 1);
        archive.detach(2);
        archive.attach(1, 0, 1);
        int[] due = {NONE, NONE, 1, 3, NONE, 0, 4, 5, NONE};
        Checks.is("placeCount", due.length, archive.placeCount());
        for (int place = 0; place < due.length; place++) {
            Checks.is("the slip at " + place, due[place], archive.sideAt(place, 2));
        }
    }

    /** "The reading order contains all sides of present leaves and of attached slips": there may be none. */
    private static void emptyReadingOrder() {
        BARE.takes("placeCount", 0, x -> x.placeCount());
        BARE.takes("the place of a missing leaf", NONE, x -> x.placeOf(1, 1));
        BARE.takes("findLabel", NONE, x -> x.findLabel(0));
        BARE.takes("uncovered", 0, x -> x.uncovered());
        BARE.takes("nextUncovered", NONE, x -> x.nextUncovered(0));
        BARE.takes("present leaves", 0, x -> x.volume(2));
        BARE.takes("sortScans", 0, x -> x.sortScans());
        BARE.takes("formatLeafLabel", 0, x -> x.formatLeafLabel(0, 0));
        BARE.takes("formatCollation", 8, x -> x.formatCollation());
    }

    private static void fullReadingOrder() {
        PageArchive archive = Checks.loaded(SIXTY + ";slip 0 recto 2".repeat(6) + ";slip 59 verso 2".repeat(6));
        Checks.is("placeCount", 144, archive.placeCount());
        Checks.is("the recto of the first leaf", 0, archive.placeOf(0, 0));
        Checks.is("its verso", 13, archive.placeOf(0, 1));
        Checks.is("the verso of the last leaf", 131, archive.placeOf(59, 1));
        Checks.is("the last slip", 11, archive.sideAt(143, 2));
        Checks.is("its last side", 1, archive.sideAt(143, 3));
        Checks.is("its leaf", 59, archive.sideAt(143, 0));
        Checks.is("the side of this leaf", 1, archive.sideAt(143, 1));
        Checks.refusesIndex("place 144", () -> archive.sideAt(144, 0));
        Checks.is("the last side is not shown", 143, archive.nextUncovered(143));
        archive.scanSlip(11, 1);
        Checks.is("it is shown", 1, archive.showing(143));
        Checks.is("no more behind it", NONE, archive.nextUncovered(143));
        Checks.is("behind the last place", NONE, archive.nextUncovered(144));
        Checks.refusesArgument("no search starts at 145", () -> archive.nextUncovered(145));
        Checks.is("the place of the scan", 143, archive.scan(0, 1));
        Checks.is("goTo the last place", 60, archive.goTo(143));
    }

    private static void changesOfLeavesAndSlips() {
        PLAIN.takes("lose the first leaf", 5, x -> x.lose(0));
        PLAIN.takes("lose the last leaf", 5, x -> x.lose(5));
        ENDS.takes("find the first leaf", 5, x -> x.find(0));
        ENDS.takes("find the last leaf", 5, x -> x.find(5));
        BUSY.takes("lose beside the slips", 4, x -> x.lose(1));
        BUSY.takes("lose the leaf of a detached slip", 4, x -> x.lose(5));
        BARE.takes("find the only leaf", 1, x -> x.find(1));
        BUSY.takes("attach to the first leaf", 3, x -> x.attach(0, 0, 1));
        BUSY.takes("attach to the last leaf", 3, x -> x.attach(5, 1, 2));
        BUSY.takes("detach the first slip", 1, x -> x.detach(0));
        BUSY.takes("detach the last one that is attached", 1, x -> x.detach(1));
        SLIPS.takes("detach the first of 12", 10, x -> x.detach(0));
        SLIPS.takes("detach the last of 12", 10, x -> x.detach(11));
        BUSY.takes("the first leaf and the least of all", 3, x -> x.label(0, 0, 0, 1));
        BUSY.takes("the last leaf and the greatest of all", 3, x -> x.label(5, 5, 3, 999));
        BUSY.takes("all leaves", 3, x -> x.label(0, 5, 2, 500));
    }

    private static void changesOfScansAndView() {
        BUSY.takes("scan the first side", 4, x -> x.scanLeaf(0, 0));
        BUSY.takes("scan the last side", 4, x -> x.scanLeaf(5, 1));
        BUSY.takes("scan the first opening", 4, x -> x.scanOpening(0));
        BUSY.takes("scan the last opening", 4, x -> x.scanOpening(5));
        BUSY.takes("scan side 0 of a slip", 4, x -> x.scanSlip(0, 0));
        BUSY.takes("scan side 1 of a slip", 4, x -> x.scanSlip(0, 1));
        BUSY.takes("scan the last slip that is attached", 4, x -> x.scanSlip(1, 0));
        BUSY.takes("remove the first scan", 1, x -> x.removeScan(0));
        BUSY.takes("remove the last scan", 2, x -> x.removeScan(3));
        BUSY.takes("move the first scan to the end", 3, x -> x.moveScan(0, 3));
        BUSY.takes("move the last scan to the front", 5, x -> x.moveScan(3, 0));
        SCANS.takes("remove the last of 60", 0, x -> x.removeScan(59));
        // Rectos and versos take turns: the versos have 29, 28, .. rectos behind them, which makes 435 inversions.
        SCANS.takes("move the first of 60 to the end", 435 + 30, x -> x.moveScan(0, 59));
        SCANS.takes("move the last of 60 to the front", 435 + 30, x -> x.moveScan(59, 0));
        BUSY.takes("turn to the first opening", 0, x -> x.turn(-3));
        BUSY.takes("turn to the last opening", 5, x -> x.turn(2));
        BUSY.takes("turn by 1", 4, x -> x.turn(1));
        BUSY.takes("turn by -1", 2, x -> x.turn(-1));
        BUSY.takes("go to the first place", 0, x -> x.goTo(0));
        BUSY.takes("go to the last place", 5, x -> x.goTo(12));
        BUSY.takes("go back", 4, x -> x.goBack());
    }

    private static void numbersOfLeavesAndSlips() {
        int[] ofVolume = {2, 6, 5, 3, 2, 2};
        int[] ofFirst = {1, 0, 0, 3, 1, 0};
        int[] ofLast = {1, 1, 1, 4, 0, 0};
        for (int i = 0; i < 6; i++) {
            int what = i;
            BUSY.takes("volume " + what, ofVolume[what], x -> x.volume(what));
            BUSY.takes("the first leaf, " + what, ofFirst[what], x -> x.leaf(0, what));
            BUSY.takes("the last leaf, " + what, ofLast[what], x -> x.leaf(5, what));
        }
        int[] firstSlip = {0, 0, 2};
        int[] detached = {NONE, NONE, 2};
        for (int i = 0; i < 3; i++) {
            int what = i;
            BUSY.takes("the first slip, " + what, firstSlip[what], x -> x.slip(0, what));
            BUSY.takes("the last slip, a detached one, " + what, detached[what], x -> x.slip(2, what));
        }
        BUSY.takes("the first byte", '1', x -> x.formattedByte(0));
        BUSY.takes("the last byte", 'v', x -> x.formattedByte(4));
        BUSY.takes("truncate to 0", 0, x -> x.truncate(0));
        BUSY.takes("truncate to the length", 19, x -> x.truncate(19));
        BUSY.takes("truncate by 1", 18, x -> x.truncate(18));
    }

    private static void placesAndOpenings() {
        int[] first = {0, 0, NONE, NONE};
        int[] last = {5, 1, NONE, NONE};
        for (int i = 0; i < 4; i++) {
            int what = i;
            BUSY.takes("the first side, " + what, first[what], x -> x.sideAt(0, what));
            BUSY.takes("the last side, " + what, last[what], x -> x.sideAt(12, what));
        }
        int[] firstOpening = {NONE, 0, 0, 1, 1};
        int[] lastOpening = {5, NONE, 0, 0, 0};
        for (int i = 0; i < 5; i++) {
            int what = i;
            BUSY.takes("the first opening, " + what, firstOpening[what], x -> x.opening(0, what));
            BUSY.takes("the last opening, " + what, lastOpening[what], x -> x.opening(5, what));
        }
        BUSY.takes("placeCount", 13, x -> x.placeCount());
        BUSY.takes("openingCount", 6, x -> x.openingCount());
        BUSY.takes("the place of the first side", 0, x -> x.placeOf(0, 0));
        BUSY.takes("the place of the last side", 12, x -> x.placeOf(5, 1));
        BUSY.takes("the first label", 2, x -> x.formatLabel(0));
        BUSY.takes("the last label", 1, x -> x.formatLabel(12));
        BUSY.takes("the label of the first side", 2, x -> x.formatLeafLabel(0, 0));
        BUSY.takes("the label of the last side", 1, x -> x.formatLeafLabel(5, 1));
        BUSY.takes("findLabel from 0", NONE, x -> x.findLabel(0));
        BUSY.takes("findLabel from behind the last place", NONE, x -> x.findLabel(13));
        BUSY.takes("sameLabels at the first place", 1, x -> x.sameLabels(0));
        BUSY.takes("sameLabels at the last place", 1, x -> x.sameLabels(12));
        BUSY.takes("showing at the first place", 0, x -> x.showing(0));
        BUSY.takes("showing at the last place", 0, x -> x.showing(12));
        BUSY.takes("nextUncovered from 0", 0, x -> x.nextUncovered(0));
        BUSY.takes("nextUncovered from the last place", 12, x -> x.nextUncovered(12));
        BUSY.takes("nextUncovered from behind it", NONE, x -> x.nextUncovered(13));
    }

    private static void numbersOfScans() {
        int[] first = {1, 3, 0, 1};
        int[] last = {2, 10, 1, 0};
        for (int i = 0; i < 4; i++) {
            int what = i;
            BUSY.takes("the first scan, " + what, first[what], x -> x.scan(0, what));
            BUSY.takes("the last scan, " + what, last[what], x -> x.scan(3, what));
        }
        BUSY.takes("scanCount", 4, x -> x.scanCount());
        SCANS.takes("the last of 60", 1, x -> x.scan(59, 3));
    }

    private static void largestArchive() {
        PageArchive archive = Checks.loaded(SIXTY + ";label 0 59 roman 999");
        Checks.is("lose the last leaf", 59, archive.lose(59));
        Checks.is("find it", 60, archive.find(59));
        Checks.is("attach to it", 0, archive.attach(59, 1, 2));
        Checks.is("label it", 2, archive.label(59, 59, 0, 999));
        Checks.is("scan it", 0, archive.scanLeaf(59, 1));
        Checks.is("scan the last opening", 1, archive.scanOpening(60));
        Checks.is("scan the slip", 2, archive.scanSlip(0, 1));
        Checks.is("turn to the last opening", 60, archive.turn(60));
        Checks.is("turn to the first one", 0, archive.turn(-60));
        Checks.is("the scans on the last opening", 3, archive.opening(60, 4));
        Checks.is("the label of the slip", "999v*av", Checks.labelAt(archive, 121));
        Checks.is("its leaf's label", "999v", Checks.leafLabel(archive, 59, 1));
        Checks.is("none has an empty label", NONE, archive.findLabel(122));
        Checks.refusesArgument("no search starts at 123", () -> archive.findLabel(123));
        Checks.refusesIndex("opening 61", () -> archive.scanOpening(61));
        Checks.refusesState("turn to opening 61", () -> archive.turn(61));
    }

    /** Promise 23; no volume has a longer collation than eight quires of which four have 12 leaves. */
    private static void shortestAndLongestCollation() {
        Checks.is("the shortest one", "A2", Checks.collation(new PageArchive()));
        PageArchive archive = Checks.loaded(
                "quire 12;quire 12;quire 12;quire 12;quire 6;quire 2;quire 2;quire 2;missing 0 59");
        String twelve = "12(-1,2,3,4,5,6,7,8,9,10,11,12) ";
        Checks.is("the longest one", "A" + twelve + "B" + twelve + "C" + twelve + "D" + twelve
                + "E6(-1,2,3,4,5,6) F2(-1,2) G2(-1,2) H2(-1,2)", Checks.collation(archive));
        Checks.is("its length", 175, archive.formatCollation());
        Checks.is("its last byte", ')', archive.formattedByte(174));
        Checks.refusesIndex("behind it", () -> archive.formattedByte(175));
        archive.find(0);
        archive.find(11);
        archive.find(58);
        archive.find(59);
        Checks.is("without the first and the last ones", "A12(-2,3,4,5,6,7,8,9,10,11) B" + twelve + "C" + twelve + "D"
                + twelve + "E6(-1,2,3,4,5,6) F2(-1,2) G2(-1,2) H2", Checks.collation(archive));
        PageArchive one = Checks.loaded("quire 10;quire 12;missing 9;missing 10;missing 21");
        Checks.is("one missing leaf, two missing leaves", "A10(-10) B12(-1,12)", Checks.collation(one));
    }
}
