/** Section 4 and the promises 17 to 19 and 32 to 35: the first and the last opening, none present, the full trail. */
public final class OpeningLimitsTest {
    private static final int NONE = PageArchive.NONE;

    public static void main(String[] args) {
        oneMoreOpeningThanLeaves();
        firstAndLastOpening();
        withoutPresentLeaves();
        gaps();
        slipsOnTheSides();
        scansOnTheSides();
        viewAtFirst();
        turnToTheEnds();
        goToTheEnds();
        tenOnTheTrail();
        goBackTakesFromTheTrail();
        loseAndFindClearTheTrail();
        Checks.end();
    }

    private static void isOpening(PageArchive archive, int opening, int left, int right, int gap) {
        Checks.is("left of " + opening, left, archive.opening(opening, 0));
        Checks.is("right of " + opening, right, archive.opening(opening, 1));
        Checks.is("gap of " + opening, gap, archive.opening(opening, 2));
    }

    /** "If there are m present leaves, m greater than 0, there are m + 1 openings, numbered from 0" */
    private static void oneMoreOpeningThanLeaves() {
        Checks.is("2 leaves", 3, new PageArchive().openingCount());
        Checks.is("60 leaves", 61, Checks.loaded("quire 12;quire 12;quire 12;quire 12;quire 12").openingCount());
        PageArchive archive = new PageArchive();
        archive.lose(0);
        Checks.is("1 leaf", 2, archive.openingCount());
        isOpening(archive, 0, NONE, 1, 1);
        isOpening(archive, 1, 1, NONE, 0);
        Checks.refusesIndex("opening 2", () -> archive.opening(2, 0));
    }

    /** "opening 0 has no left side, opening m no right one" */
    private static void firstAndLastOpening() {
        PageArchive archive = Checks.loaded("quire 12;quire 12;quire 12;quire 12;quire 12");
        isOpening(archive, 0, NONE, 0, 0);
        isOpening(archive, 1, 0, 1, 0);
        isOpening(archive, 59, 58, 59, 0);
        isOpening(archive, 60, 59, NONE, 0);
        Checks.refusesIndex("opening 61", () -> archive.opening(61, 0));
        Checks.refusesIndex("opening -1", () -> archive.opening(-1, 0));
    }

    /** "Without present leaves there is one opening, with neither." */
    private static void withoutPresentLeaves() {
        PageArchive archive = new PageArchive();
        archive.lose(0);
        archive.lose(1);
        Checks.is("openingCount", 1, archive.openingCount());
        isOpening(archive, 0, NONE, NONE, 2);
        Checks.is("no slips on it", 0, archive.opening(0, 3));
        Checks.is("no scans on it", 0, archive.opening(0, 4));
        Checks.is("view", 0, archive.view());
        Checks.refusesState("turn", () -> archive.turn(1));
        Checks.refusesIndex("goTo", () -> archive.goTo(0));
        PageArchive slips = Checks.loaded("quire 2;slip 0 recto 1;slip 1 verso 1");
        slips.scanLeaf(0, 0);
        slips.scanSlip(1, 0);
        slips.scanOpening(1);
        slips.detach(0);
        slips.detach(1);
        slips.lose(0);
        slips.lose(1);
        Checks.is("detached slips lie on no opening", 0, slips.opening(0, 3));
        Checks.is("nor do scans without a place", 0, slips.opening(0, 4));
        PageArchive full = Checks.loaded("quire 12;quire 12;quire 12;quire 12;quire 12;missing 0 59");
        isOpening(full, 0, NONE, NONE, 60);
        Checks.is("openingCount", 1, full.openingCount());
    }

    /** "before the first present leaf for opening 0, behind the last one for opening m; all leaves" */
    private static void gaps() {
        PageArchive archive = Checks.loaded("quire 4;quire 4;quire 4;missing 0 2;missing 4 5;missing 8;missing 11");
        isOpening(archive, 0, NONE, 3, 3);
        isOpening(archive, 1, 3, 6, 2);
        isOpening(archive, 2, 6, 7, 0);
        isOpening(archive, 3, 7, 9, 1);
        isOpening(archive, 4, 9, 10, 0);
        isOpening(archive, 5, 10, NONE, 1);
        PageArchive last = Checks.loaded("quire 12;quire 12;quire 12;quire 12;quire 12;missing 0 58");
        isOpening(last, 0, NONE, 59, 59);
        isOpening(last, 1, 59, NONE, 0);
        PageArchive first = Checks.loaded("quire 12;quire 12;quire 12;quire 12;quire 12;missing 1 59");
        isOpening(first, 0, NONE, 0, 0);
        isOpening(first, 1, 0, NONE, 59);
        PageArchive both = Checks.loaded("quire 12;quire 12;quire 12;quire 12;quire 12;missing 1 58");
        isOpening(both, 1, 0, 59, 58);
    }

    private static void slipsOnTheSides() {
        PageArchive archive = Checks.loaded("quire 2" + ";slip 0 verso 1".repeat(6) + ";slip 1 recto 2".repeat(6));
        Checks.is("12 slips on one opening", 12, archive.opening(1, 3));
        Checks.is("none before it", 0, archive.opening(0, 3));
        Checks.is("none behind it", 0, archive.opening(2, 3));
        archive.detach(0);
        archive.detach(11);
        Checks.is("without the detached ones", 10, archive.opening(1, 3));
        PageArchive ends = Checks.loaded("quire 2;slip 0 recto 1;slip 1 verso 2;slip 1 verso 1");
        Checks.is("on the first opening", 1, ends.opening(0, 3));
        Checks.is("on the middle one", 0, ends.opening(1, 3));
        Checks.is("on the last one", 2, ends.opening(2, 3));
    }

    /** "the number of scans of which at least one shown side lies on it (slips on its sides included)" */
    private static void scansOnTheSides() {
        PageArchive archive = Checks.loaded("quire 4;slip 0 verso 2;slip 1 recto 1");
        for (int scan = 0; scan < 60; scan += 3) {
            archive.scanLeaf(0, 1);
            archive.scanOpening(1);
            archive.scanSlip(0, 1);
        }
        Checks.is("60 scans on one opening", 60, archive.opening(1, 4));
        Checks.is("none before it", 0, archive.opening(0, 4));
        Checks.is("none behind it", 0, archive.opening(2, 4));
        archive.detach(0);
        Checks.is("without those of a detached slip", 40, archive.opening(1, 4));
        archive.lose(0);
        Checks.is("the right sides of the openings", 20, archive.opening(0, 4));
        PageArchive split = Checks.loaded("quire 4");
        split.lose(1);
        split.scanOpening(1);
        Checks.is("one scan, both of its sides", 1, split.opening(1, 4));
        split.find(1);
        Checks.is("its left side", 1, split.opening(1, 4));
        Checks.is("its right side", 1, split.opening(2, 4));
        Checks.is("not before", 0, split.opening(0, 4));
        Checks.is("not behind", 0, split.opening(3, 4));
    }

    /** "The view is on an opening, at first on opening 0." */
    private static void viewAtFirst() {
        PageArchive archive = new PageArchive();
        Checks.is("a new object", 0, archive.view());
        Checks.is("its trail", 0, archive.trailLength());
        archive.turn(2);
        Checks.type(archive, "quire 4;missing 0");
        archive.load();
        Checks.is("after a load", 0, archive.view());
        Checks.is("its trail", 0, archive.trailLength());
    }

    private static void turnToTheEnds() {
        PageArchive archive = Checks.loaded("quire 4;missing 1");
        Checks.is("to the last opening", 3, archive.turn(3));
        Checks.refusesState("1 more", () -> archive.turn(1));
        Checks.is("to the first one", 0, archive.turn(-3));
        Checks.refusesState("1 less", () -> archive.turn(-1));
        Checks.refusesState("1 too far", () -> archive.turn(4));
        Checks.is("to one between", 2, archive.turn(2));
        Checks.refusesState("1 too far", () -> archive.turn(2));
        Checks.refusesState("1 too far back", () -> archive.turn(-3));
        Checks.refusesState("the greatest", () -> archive.turn(Integer.MAX_VALUE));
        Checks.refusesState("1 less than the greatest", () -> archive.turn(Integer.MAX_VALUE - 1));
        Checks.refusesState("the least", () -> archive.turn(Integer.MIN_VALUE));
        Checks.refusesArgument("0 comes first", () -> archive.turn(0));
        Checks.is("the trail has the three turns alone", 3, archive.trailLength());
        Checks.is("the view stays", 2, archive.view());
    }

    /** "with a side of a slip the one with the side to which it is attached" */
    private static void goToTheEnds() {
        PageArchive archive = Checks.loaded("quire 4;missing 0;missing 3;slip 1 recto 2;slip 2 verso 2");
        int[] due = {0, 0, 0, 1, 1, 2, 2, 2};
        Checks.is("placeCount", due.length, archive.placeCount());
        for (int place = due.length - 1; place >= 0; place--) {
            Checks.is("goTo " + place, due[place], archive.goTo(place));
        }
        Checks.refusesIndex("behind the last place", () -> archive.goTo(8));
        Checks.refusesIndex("before the first place", () -> archive.goTo(-1));
        Checks.is("trail", 8, archive.trailLength());
    }

    /** "The trail keeps the latest 10 openings that were left by turn() and goTo()." */
    private static void tenOnTheTrail() {
        PageArchive ten = Checks.loaded("quire 12");
        for (int i = 0; i < 10; i++) {
            ten.turn(1);
        }
        Checks.is("ten", 10, ten.trailLength());
        for (int i = 9; i >= 0; i--) {
            Checks.is("all ten are kept", i, ten.goBack());
        }
        Checks.refusesState("no more", ten::goBack);
        PageArchive eleven = Checks.loaded("quire 12");
        for (int i = 0; i < 5; i++) {
            eleven.turn(1);
        }
        for (int i = 5; i < 11; i++) {
            // The recto of leaf i + 1 lies on the opening with this number.
            eleven.goTo(2 * i + 2);
        }
        Checks.is("eleven", 10, eleven.trailLength());
        for (int i = 10; i >= 1; i--) {
            Checks.is("the oldest one is gone", i, eleven.goBack());
        }
        Checks.refusesState("no more", eleven::goBack);
        Checks.is("the view stays on the last one", 1, eleven.view());
    }

    /** "the latest opening of the trail, which is removed from it" */
    private static void goBackTakesFromTheTrail() {
        PageArchive archive = Checks.loaded("quire 12");
        for (int i = 0; i < 12; i++) {
            archive.turn(1);
        }
        Checks.is("the latest one", 11, archive.goBack());
        Checks.is("one less", 9, archive.trailLength());
        archive.turn(-1);
        Checks.is("full again", 10, archive.trailLength());
        archive.turn(-1);
        Checks.is("still ten", 10, archive.trailLength());
        int[] due = {10, 11, 10, 9, 8, 7, 6, 5, 4, 3};
        for (int i = 0; i < due.length; i++) {
            Checks.is("goBack " + i, due[i], archive.goBack());
            Checks.is("trailLength", 9 - i, archive.trailLength());
            Checks.is("view", due[i], archive.view());
        }
        Checks.refusesState("an empty trail", archive::goBack);
    }

    /** "After lose() and find() the view is on opening 0, and the trail is empty." */
    private static void loseAndFindClearTheTrail() {
        PageArchive archive = Checks.loaded("quire 12");
        for (int i = 0; i < 12; i++) {
            archive.turn(1);
        }
        archive.lose(11);
        Checks.is("view after lose", 0, archive.view());
        Checks.is("trail after lose", 0, archive.trailLength());
        Checks.refusesState("goBack after lose", archive::goBack);
        archive.turn(11);
        archive.find(11);
        Checks.is("view after find", 0, archive.view());
        Checks.is("trail after find", 0, archive.trailLength());
        Checks.refusesState("goBack after find", archive::goBack);
        archive.undo();
        Checks.is("undo brings back the view", 11, archive.view());
        Checks.is("undo brings back the trail", 1, archive.trailLength());
        Checks.is("and what stood on it", 0, archive.goBack());
        PageArchive kept = Checks.loaded("quire 4;slip 0 recto 1");
        kept.turn(3);
        kept.attach(3, 0, 1);
        kept.detach(0);
        kept.label(0, 3, 0, 1);
        kept.scanLeaf(0, 0);
        kept.scanOpening(2);
        kept.removeScan(0);
        kept.sortScans();
        Checks.is("other changes leave the view", 3, kept.view());
        Checks.is("and the trail", 1, kept.trailLength());
    }
}
