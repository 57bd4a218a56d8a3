/** Promises 17 to 19 and 32 to 35: openings, the view and its trail. */
public final class OpeningsTest {
    public static void main(String[] args) {
        numbersOfOpenings();
        withoutPresentLeaves();
        scansOnOpenings();
        turn();
        goTo();
        goBack();
        trailKeepsTen();
        Checks.end();
    }

    private static void numbersOfOpenings() {
        PageArchive archive = Checks.loaded("quire 8;missing 0 1;missing 4;missing 7;slip 2 verso 1;slip 3 recto 2;"
                + "slip 3 recto 1;slip 2 recto 1;slip 6 verso 1");
        int none = PageArchive.NONE;
        int[][] due = {{none, 2, 2, 1, 0}, {2, 3, 0, 3, 0}, {3, 5, 1, 0, 0}, {5, 6, 0, 0, 0}, {6, none, 1, 1, 0}};
        Checks.is("openingCount", due.length, archive.openingCount());
        for (int opening = 0; opening < due.length; opening++) {
            for (int what = 0; what < 5; what++) {
                Checks.is("opening " + opening + ", " + what, due[opening][what], archive.opening(opening, what));
            }
        }
        Checks.refusesIndex("opening -1 before what", () -> archive.opening(-1, 5));
        Checks.refusesIndex("opening 5 before what", () -> archive.opening(5, 5));
        Checks.refusesArgument("what -1", () -> archive.opening(0, -1));
        Checks.refusesArgument("what 5", () -> archive.opening(0, 5));
    }

    private static void withoutPresentLeaves() {
        PageArchive archive = Checks.loaded("quire 4;missing 0 3");
        Checks.is("openingCount", 1, archive.openingCount());
        int[] due = {PageArchive.NONE, PageArchive.NONE, 4, 0, 0};
        for (int what = 0; what < due.length; what++) {
            Checks.is("opening 0, " + what, due[what], archive.opening(0, what));
        }
        Checks.refusesIndex("opening 1", () -> archive.opening(1, 0));
        Checks.refusesState("scanOpening", () -> archive.scanOpening(0));
        Checks.refusesState("turn forwards", () -> archive.turn(1));
        Checks.refusesIndex("goTo", () -> archive.goTo(0));
        archive.find(2);
        Checks.is("a present leaf makes two", 2, archive.openingCount());
        Checks.is("the gap before it", 2, archive.opening(0, 2));
        Checks.is("the gap behind it", 1, archive.opening(1, 2));
    }

    private static void scansOnOpenings() {
        PageArchive archive = Checks.loaded("quire 4;slip 1 recto 2;slip 0 verso 1");
        archive.scanOpening(1);
        archive.scanLeaf(0, 1);
        archive.scanLeaf(1, 0);
        archive.scanLeaf(0, 0);
        archive.scanSlip(0, 1);
        archive.scanSlip(1, 0);
        archive.scanOpening(2);
        int[] due = {1, 5, 1, 0, 0};
        for (int opening = 0; opening < due.length; opening++) {
            Checks.is("scans on opening " + opening, due[opening], archive.opening(opening, 4));
        }
        archive.detach(0);
        Checks.is("without a detached slip", 4, archive.opening(1, 4));
        archive.lose(1);
        Checks.is("the verso of leaf 0, the slip on it, and the recto of leaf 2", 4, archive.opening(1, 4));
        Checks.is("the verso of leaf 2 is not shown", 0, archive.opening(2, 4));
        archive.scanOpening(1);
        Checks.is("both sides of one scan count once", 5, archive.opening(1, 4));
        archive.find(1);
        Checks.is("its left side", 5, archive.opening(1, 4));
        Checks.is("its right side", 2, archive.opening(2, 4));
    }

    private static void turn() {
        PageArchive archive = Checks.loaded("quire 4");
        Checks.refusesArgument("by 0", () -> archive.turn(0));
        Checks.refusesState("before the first", () -> archive.turn(-1));
        Checks.refusesState("behind the last", () -> archive.turn(5));
        Checks.is("to the last", 4, archive.turn(4));
        Checks.refusesState("greatest", () -> archive.turn(Integer.MAX_VALUE));
        Checks.refusesState("least", () -> archive.turn(Integer.MIN_VALUE));
        Checks.is("view", 4, archive.view());
        Checks.is("trail", 1, archive.trailLength());
        Checks.is("backwards", 1, archive.turn(-3));
        Checks.is("trail", 2, archive.trailLength());
        Checks.is("changes", 2, archive.undoCount());
    }

    private static void goTo() {
        PageArchive archive = Checks.loaded("quire 6;missing 1;missing 4;slip 2 recto 2;slip 3 verso 1");
        int[] due = {0, 1, 1, 1, 1, 2, 2, 3, 3, 3, 4};
        Checks.is("placeCount", due.length, archive.placeCount());
        for (int place = 0; place < due.length; place++) {
            Checks.is("goTo " + place, due[place], archive.goTo(place));
            Checks.is("view", due[place], archive.view());
        }
        Checks.refusesIndex("place -1", () -> archive.goTo(-1));
        Checks.refusesIndex("place 11", () -> archive.goTo(11));
        PageArchive other = new PageArchive();
        other.goTo(0);
        Checks.is("to the same opening, which comes to the trail", 1, other.trailLength());
        other.goTo(3);
        Checks.is("trail", 2, other.trailLength());
        Checks.is("changes", 2, other.undoCount());
    }

    private static void goBack() {
        PageArchive archive = Checks.loaded("quire 6");
        Checks.refusesState("an empty trail", archive::goBack);
        archive.turn(3);
        archive.goTo(10);
        archive.turn(-1);
        Checks.is("the latest one", 5, archive.goBack());
        Checks.is("view", 5, archive.view());
        Checks.is("trail", 2, archive.trailLength());
        Checks.is("the one before", 3, archive.goBack());
        Checks.is("the first one", 0, archive.goBack());
        Checks.is("trail", 0, archive.trailLength());
        Checks.refusesState("no more", archive::goBack);
        Checks.is("changes", 6, archive.undoCount());
    }

    private static void trailKeepsTen() {
        PageArchive archive = Checks.loaded("quire 12;quire 2");
        for (int i = 1; i <= 13; i++) {
            archive.turn(1);
            Checks.is("trailLength", Math.min(i, 10), archive.trailLength());
        }
        for (int i = 12; i >= 3; i--) {
            Checks.is("goBack", i, archive.goBack());
        }
        Checks.refusesState("the oldest ones are gone", archive::goBack);
    }
}
