/** Promises 25 to 31: places and labels. */
public final class ReadingOrderTest {
    public static void main(String[] args) {
        places();
        placesOfLeaves();
        theMostPlaces();
        labelsOfLeaves();
        romanNumerals();
        labelsOfSlips();
        latestRange();
        findLabel();
        sameLabels();
        Checks.end();
    }

    private static void places() {
        PageArchive archive = Checks.loaded(
                "quire 4;missing 1;slip 2 recto 2;slip 0 verso 1;slip 2 recto 1;slip 2 verso 2");
        int none = PageArchive.NONE;
        int[][] due = {
            {0, 0, none, none}, {0, 1, none, none}, {0, 1, 1, 0},
            {2, 0, none, none}, {2, 0, 0, 0}, {2, 0, 0, 1}, {2, 0, 2, 0},
            {2, 1, none, none}, {2, 1, 3, 0}, {2, 1, 3, 1},
            {3, 0, none, none}, {3, 1, none, none}};
        Checks.is("placeCount", due.length, archive.placeCount());
        for (int place = 0; place < due.length; place++) {
            for (int what = 0; what < 4; what++) {
                Checks.is("sideAt " + place + ", " + what, due[place][what], archive.sideAt(place, what));
            }
        }
        Checks.refusesIndex("place -1 before what", () -> archive.sideAt(-1, 4));
        Checks.refusesIndex("place 12 before what", () -> archive.sideAt(12, 4));
        Checks.refusesArgument("what -1", () -> archive.sideAt(0, -1));
        Checks.refusesArgument("what 4", () -> archive.sideAt(0, 4));
        archive.detach(0);
        Checks.is("without a slip of two sides", 10, archive.placeCount());
        Checks.is("the next slip moves up", 2, archive.sideAt(4, 2));
    }

    private static void placesOfLeaves() {
        PageArchive archive = Checks.loaded("quire 4;missing 1;slip 2 recto 2;slip 0 verso 1");
        int none = PageArchive.NONE;
        int[] due = {0, 1, none, none, 3, 6, 7, 8};
        for (int i = 0; i < due.length; i++) {
            Checks.is("placeOf " + i / 2 + ", " + i % 2, due[i], archive.placeOf(i / 2, i % 2));
        }
        Checks.refusesIndex("leaf -1 before the side", () -> archive.placeOf(-1, 2));
        Checks.refusesIndex("leaf 4 before the side", () -> archive.placeOf(4, 2));
        Checks.refusesArgument("side -1", () -> archive.placeOf(0, -1));
        Checks.refusesArgument("side 2 of a missing leaf", () -> archive.placeOf(1, 2));
    }

    private static void theMostPlaces() {
        PageArchive archive = Checks.loaded("quire 12;quire 12;quire 12;quire 12;quire 12"
                + ";slip 59 verso 2".repeat(12));
        Checks.is("all sides", 144, archive.placeCount());
        Checks.is("the last side", 11, archive.sideAt(143, 2));
        Checks.is("none is shown", 144, archive.uncovered());
        Checks.is("its label", "*lv", Checks.labelAt(archive, 143));
    }

    private static void labelsOfLeaves() {
        PageArchive archive = Checks.loaded("quire 12;missing 3;label 1 4 folio 9;label 5 7 page 998;label 8 10 roman 3");
        String[] due = {"", "", "9r", "9v", "10r", "10v", "11r", "11v", "12r", "12v",
            "998", "999", "1000", "1001", "1002", "1003", "iii", "iv", "v", "vi", "vii", "viii", "", ""};
        for (int i = 0; i < due.length; i++) {
            Checks.is("label of " + i / 2 + ", " + i % 2, due[i], Checks.leafLabel(archive, i / 2, i % 2));
        }
        Checks.is("length", 2, archive.formatLeafLabel(1, 0));
        Checks.is("label at a place, behind a missing leaf", "12r", Checks.labelAt(archive, 6));
        Checks.refusesIndex("leaf -1 before the side", () -> archive.formatLeafLabel(-1, 2));
        Checks.refusesIndex("leaf 12 before the side", () -> archive.formatLeafLabel(12, 2));
        Checks.refusesArgument("side -1", () -> archive.formatLeafLabel(0, -1));
        Checks.refusesArgument("side 2", () -> archive.formatLeafLabel(0, 2));
        Checks.refusesIndex("place -1", () -> archive.formatLabel(-1));
        Checks.refusesIndex("place 22", () -> archive.formatLabel(22));
        Checks.is("a refused call keeps the text", "12r", Checks.formatted(archive, 3));
    }

    private static void romanNumerals() {
        String[] due = {"1", "i", "4", "iv", "5", "v", "9", "ix", "14", "xiv", "40", "xl", "44", "xliv", "49", "xlix",
            "50", "l", "90", "xc", "99", "xcix", "100", "c", "388", "ccclxxxviii", "400", "cd", "444", "cdxliv",
            "500", "d", "888", "dccclxxxviii", "900", "cm", "949", "cmxlix", "999", "cmxcix"};
        for (int i = 0; i < due.length; i += 2) {
            PageArchive archive = Checks.loaded("quire 2;label 0 1 roman " + due[i]);
            Checks.is("roman " + due[i], due[i + 1], Checks.leafLabel(archive, 0, 0));
        }
        PageArchive archive = Checks.loaded("quire 12;quire 12;quire 12;quire 12;quire 12;label 0 59 roman 999");
        Checks.is("1000", "m", Checks.leafLabel(archive, 0, 1));
        Checks.is("1117", "mcxvii", Checks.leafLabel(archive, 59, 0));
        Checks.is("1118", "mcxviii", Checks.leafLabel(archive, 59, 1));
        archive.label(0, 59, 0, 999);
        Checks.is("the greatest folio", "1058v", Checks.leafLabel(archive, 59, 1));
        archive.label(0, 59, 1, 999);
        Checks.is("the greatest page", "1118", Checks.leafLabel(archive, 59, 1));
    }

    private static void labelsOfSlips() {
        PageArchive archive = Checks.loaded("quire 2;label 0 0 folio 3;slip 0 recto 2;slip 0 verso 1;slip 0 recto 2;"
                + "slip 1 recto 2");
        String[] due = {"3r", "3r*a", "3r*av", "3r*b", "3r*bv", "3v", "3v*a", "", "*a", "*av", ""};
        for (int place = 0; place < due.length; place++) {
            Checks.is("label at " + place, due[place], Checks.labelAt(archive, place));
        }
        archive.detach(0);
        Checks.is("the second slip is the first one now", "3r*av", Checks.labelAt(archive, 2));
        archive.attach(0, 0, 1);
        Checks.is("a new slip goes behind", "3r*b", Checks.labelAt(archive, 3));
        PageArchive longest = Checks.loaded("quire 2;label 0 1 roman 888" + ";slip 0 recto 2".repeat(12));
        Checks.is("the longest label", "dccclxxxviii*lv", Checks.labelAt(longest, 24));
    }

    private static void latestRange() {
        PageArchive archive = Checks.loaded("quire 4;label 0 3 folio 1;label 1 2 page 10;label 2 2 none 1");
        String[] due = {"1r", "10", "", "4r"};
        for (int leaf = 0; leaf < due.length; leaf++) {
            Checks.is("label of " + leaf, due[leaf], Checks.leafLabel(archive, leaf, 0));
        }
        archive.label(0, 3, 2, 1);
        Checks.is("a later one goes before all", "vi", Checks.leafLabel(archive, 2, 1));
    }

    private static void findLabel() {
        PageArchive archive = Checks.loaded("quire 4;label 0 1 page 3;label 2 3 page 3;slip 2 recto 2");
        archive.formatCollation();
        Checks.type(archive, "3");
        Checks.is("the first one", 0, archive.findLabel(0));
        Checks.is("the next one", 4, archive.findLabel(1));
        Checks.is("not before the place", 4, archive.findLabel(4));
        Checks.is("no more", PageArchive.NONE, archive.findLabel(5));
        Checks.is("behind the last place", PageArchive.NONE, archive.findLabel(10));
        Checks.refusesArgument("from -1", () -> archive.findLabel(-1));
        Checks.refusesArgument("from 11", () -> archive.findLabel(11));
        Checks.type(archive, "*");
        Checks.is("a part of a label", PageArchive.NONE, archive.findLabel(0));
        Checks.type(archive, "av");
        Checks.is("a slip", 6, archive.findLabel(0));
        Checks.type(archive, "v");
        Checks.is("more than a label", PageArchive.NONE, archive.findLabel(0));
        archive.truncate(0);
        Checks.is("no label is empty", PageArchive.NONE, archive.findLabel(0));
        Checks.is("the formatted text is kept", "A4", Checks.formatted(archive, 2));
        archive.label(1, 1, 3, 1);
        Checks.is("an empty label", 2, archive.findLabel(0));
        Checks.is("the next empty label", 3, archive.findLabel(3));
        PageArchive shrunk = Checks.loaded("quire 4");
        Checks.is("an empty label at the last place", 7, shrunk.findLabel(7));
        shrunk.lose(3);
        Checks.is("which is gone with its leaf", PageArchive.NONE, shrunk.findLabel(6));
        Checks.type(archive, "quire 12");
        archive.append(' ', 0, 0, 0, 0);
        Checks.is("a text longer than each label", PageArchive.NONE, archive.findLabel(0));
    }

    private static void sameLabels() {
        PageArchive archive = Checks.loaded("quire 6;label 0 1 page 3;label 2 3 page 3;slip 2 recto 2;slip 0 recto 1");
        int[] due = {2, 2, 2, 2, 2, 2, 2, 1, 2, 2, 2, 4, 4, 4, 4};
        Checks.is("placeCount", due.length, archive.placeCount());
        archive.formatCollation();
        for (int place = 0; place < due.length; place++) {
            Checks.is("sameLabels at " + place, due[place], archive.sameLabels(place));
        }
        Checks.is("the formatted text is kept", "A6", Checks.formatted(archive, 2));
        Checks.refusesIndex("place -1", () -> archive.sameLabels(-1));
        Checks.refusesIndex("place 15", () -> archive.sameLabels(15));
    }
}
