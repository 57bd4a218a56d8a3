/** Section 3 and the promises 10 and 28 to 31: ranges at their ends, the least and the greatest labels, empty ones. */
public final class LabelLimitsTest {
    private static final int NONE = PageArchive.NONE;
    private static final String SIXTY = "quire 12;quire 12;quire 12;quire 12;quire 12";
    private static final int FOLIO = 0;
    private static final int PAGE = 1;
    private static final int ROMAN = 2;
    private static final int UNLABELLED = 3;

    public static void main(String[] args) {
        twelveRanges();
        firstAndLastLeafOfARange();
        leastAndGreatestStart();
        latestRange();
        missingLeavesCount();
        romanNumerals();
        emptyLabels();
        lettersOfSlips();
        longestLabels();
        findLabelAtTheEnds();
        findLabelOfOtherBytes();
        sameLabelsOneToAll();
        Checks.end();
    }

    /** "There are at most 12 label ranges." */
    private static void twelveRanges() {
        PageArchive archive = Checks.loaded("quire 12");
        Checks.is("none", 0, archive.volume(5));
        for (int range = 1; range <= 12; range++) {
            Checks.is("label", range, archive.label(range - 1, range - 1, FOLIO, range));
            Checks.is("its leaf's label", range + "r", Checks.leafLabel(archive, range - 1, 0));
        }
        Checks.is("ranges", 12, archive.volume(5));
        Checks.refusesState("a 13th range", () -> archive.label(0, 0, FOLIO, 1));
        Checks.is("the first one is kept", "1v", Checks.leafLabel(archive, 0, 1));
        archive.undo();
        Checks.is("an undone range makes room", 12, archive.label(0, 11, PAGE, 5));
        Checks.is("for another one", "5", Checks.leafLabel(archive, 0, 0));
        PageArchive mixed = Checks.loaded("quire 2" + ";label 0 0 page 3".repeat(11));
        Checks.is("a 12th one behind those of the text", 12, mixed.label(1, 1, FOLIO, 1));
        Checks.refusesState("a 13th one behind those of the text", () -> mixed.label(1, 1, FOLIO, 1));
    }

    /** "A range goes from a leaf to another one (not less)" */
    private static void firstAndLastLeafOfARange() {
        PageArchive archive = Checks.loaded("quire 12;label 3 6 folio 20;label 9 9 page 8");
        String[] due = {"", "", "", "20r", "21r", "22r", "23r", "", "", "8", "", ""};
        for (int leaf = 0; leaf < due.length; leaf++) {
            Checks.is("label of " + leaf, due[leaf], Checks.leafLabel(archive, leaf, 0));
        }
        archive.label(0, 0, ROMAN, 1);
        archive.label(11, 11, ROMAN, 1);
        Checks.is("the first leaf alone", "ii", Checks.leafLabel(archive, 0, 1));
        Checks.is("not the second one", "", Checks.leafLabel(archive, 1, 1));
        Checks.is("the last leaf alone", "i", Checks.leafLabel(archive, 11, 0));
        Checks.is("not the one before", "", Checks.leafLabel(archive, 10, 0));
        archive.label(0, 11, PAGE, 1);
        Checks.is("all leaves, the first one", "1", Checks.leafLabel(archive, 0, 0));
        Checks.is("all leaves, the last one", "24", Checks.leafLabel(archive, 11, 1));
    }

    /** "a start (1 to 999)" */
    private static void leastAndGreatestStart() {
        PageArchive archive = Checks.loaded(SIXTY);
        String[] least = {"1r", "1v", "60v", "1", "2", "120", "i", "ii", "cxx", "", "", ""};
        String[] greatest = {"999r", "999v", "1058v", "999", "1000", "1118", "cmxcix", "m", "mcxviii", "", "", ""};
        for (int style = FOLIO; style <= UNLABELLED; style++) {
            archive.label(0, 59, style, 1);
            Checks.is("least start, recto", least[3 * style], Checks.leafLabel(archive, 0, 0));
            Checks.is("least start, verso", least[3 * style + 1], Checks.leafLabel(archive, 0, 1));
            Checks.is("least start, last side", least[3 * style + 2], Checks.leafLabel(archive, 59, 1));
            archive.label(0, 59, style, 999);
            Checks.is("greatest start, recto", greatest[3 * style], Checks.leafLabel(archive, 0, 0));
            Checks.is("greatest start, verso", greatest[3 * style + 1], Checks.leafLabel(archive, 0, 1));
            Checks.is("greatest start, last side", greatest[3 * style + 2], Checks.leafLabel(archive, 59, 1));
        }
        PageArchive digits = Checks.loaded("quire 4;label 0 0 folio 9;label 1 1 folio 10;label 2 2 page 99;label 3 3 page 100");
        String[] due = {"9r", "10r", "99", "100"};
        for (int leaf = 0; leaf < due.length; leaf++) {
            Checks.is("digits", due[leaf], Checks.leafLabel(digits, leaf, 0));
        }
        Checks.is("from two digits to three", "100", Checks.leafLabel(digits, 2, 1));
    }

    /** "The range of a leaf is the latest one that contains it." */
    private static void latestRange() {
        PageArchive archive = Checks.loaded("quire 6;label 0 5 page 1;label 2 3 folio 50;label 3 4 roman 7");
        String[] due = {"1", "3", "50r", "vii", "ix", "11"};
        for (int leaf = 0; leaf < due.length; leaf++) {
            Checks.is("label of " + leaf, due[leaf], Checks.leafLabel(archive, leaf, 0));
        }
        archive.label(3, 3, UNLABELLED, 1);
        Checks.is("the latest one is of the style none", "", Checks.leafLabel(archive, 3, 0));
        Checks.is("behind it the range goes on", "ix", Checks.leafLabel(archive, 4, 0));
        archive.label(3, 3, FOLIO, 50);
        archive.label(3, 3, FOLIO, 50);
        Checks.is("twice the same range", "50v", Checks.leafLabel(archive, 3, 1));
    }

    /** "0 for the first leaf of the range; missing leaves count" */
    private static void missingLeavesCount() {
        PageArchive archive = Checks.loaded("quire 6;missing 0 1;missing 3;missing 5;label 0 5 folio 1");
        Checks.is("behind two missing ones", "3r", Checks.labelAt(archive, 0));
        Checks.is("behind three", "5v", Checks.labelAt(archive, 3));
        Checks.is("the label of a missing leaf, the first one", "1r", Checks.leafLabel(archive, 0, 0));
        Checks.is("the label of a missing leaf, the last one", "6v", Checks.leafLabel(archive, 5, 1));
        archive.find(0);
        Checks.is("a found leaf changes no label", "3r", Checks.leafLabel(archive, 2, 0));
        PageArchive bare = Checks.loaded("quire 2;missing 0 1;label 0 1 roman 998");
        Checks.is("all are missing", "mi", Checks.leafLabel(bare, 1, 1));
    }

    /** "(4 as iv, 9 as ix, 40 as xl, 90 as xc, 400 as cd, 900 as cm)", and the numbers beside them. */
    private static void romanNumerals() {
        String[] due = {"1", "i", "2", "ii", "3", "iii", "4", "iv", "5", "v", "6", "vi", "8", "viii", "9", "ix", "10", "x",
            "11", "xi", "39", "xxxix", "40", "xl", "41", "xli", "49", "xlix", "50", "l", "51", "li", "89", "lxxxix",
            "90", "xc", "91", "xci", "99", "xcix", "100", "c", "101", "ci", "399", "cccxcix", "400", "cd", "401", "cdi",
            "499", "cdxcix", "500", "d", "501", "di", "899", "dcccxcix", "900", "cm", "901", "cmi", "990", "cmxc",
            "998", "cmxcviii", "999", "cmxcix"};
        for (int i = 0; i < due.length; i += 2) {
            PageArchive archive = new PageArchive();
            archive.label(0, 0, ROMAN, Integer.parseInt(due[i]));
            Checks.is("roman " + due[i], due[i + 1], Checks.leafLabel(archive, 0, 0));
        }
        PageArchive archive = Checks.loaded(SIXTY + ";label 0 59 roman 999");
        String[] beyond = {"m", "mi", "mii", "miii", "miv", "mv", "mvi", "mvii", "mviii", "mix", "mx"};
        for (int i = 0; i < beyond.length; i++) {
            Checks.is("roman " + (1000 + i), beyond[i], Checks.leafLabel(archive, (i + 1) / 2, (i + 1) % 2));
        }
        Checks.is("roman 1040", "mxl", Checks.leafLabel(archive, 20, 1));
        Checks.is("roman 1090", "mxc", Checks.leafLabel(archive, 45, 1));
        Checks.is("roman 1100", "mc", Checks.leafLabel(archive, 50, 1));
    }

    /** "by the style none, or without a range, empty" */
    private static void emptyLabels() {
        PageArchive archive = Checks.loaded("quire 4;label 1 1 none 5;slip 0 recto 2;slip 1 verso 1");
        String[] due = {"", "*a", "*av", "", "", "", "*a", "", "", "", ""};
        Checks.is("placeCount", due.length, archive.placeCount());
        for (int place = 0; place < due.length; place++) {
            Checks.is("label at " + place, due[place], Checks.labelAt(archive, place));
        }
        archive.formatCollation();
        Checks.is("without a range", 0, archive.formatLeafLabel(0, 0));
        Checks.refusesIndex("no byte is left", () -> archive.formattedByte(0));
        archive.formatCollation();
        Checks.is("the style none", 0, archive.formatLeafLabel(1, 1));
        Checks.refusesIndex("no byte is left", () -> archive.formattedByte(0));
    }

    /** "a for the first slip on that side, b for the second one, and so on; behind it stands v for the side 1" */
    private static void lettersOfSlips() {
        PageArchive archive = Checks.loaded("quire 2;label 0 1 page 7" + ";slip 0 verso 2".repeat(12));
        for (int slip = 0; slip < 12; slip++) {
            char letter = "abcdefghijkl".charAt(slip);
            Checks.is("slip " + slip, "8*" + letter, Checks.labelAt(archive, 2 + 2 * slip));
            Checks.is("its side 1", "8*" + letter + "v", Checks.labelAt(archive, 3 + 2 * slip));
        }
        archive.detach(0);
        Checks.is("the second one is the first one now", "8*a", Checks.labelAt(archive, 2));
        Checks.is("the last letter is free", "8*kv", Checks.labelAt(archive, 23));
        archive.detach(5);
        Checks.is("before a detached one", "8*dv", Checks.labelAt(archive, 9));
        Checks.is("behind a detached one", "8*e", Checks.labelAt(archive, 10));
        PageArchive sides = Checks.loaded("quire 2;label 0 1 folio 7;slip 0 recto 1;slip 0 verso 1;slip 1 recto 1;slip 0 recto 1");
        String[] due = {"7r", "7r*a", "7r*b", "7v", "7v*a", "8r", "8r*a", "8v"};
        for (int place = 0; place < due.length; place++) {
            Checks.is("each side has letters of its own", due[place], Checks.labelAt(sides, place));
        }
    }

    private static void longestLabels() {
        PageArchive roman = Checks.loaded("quire 2;label 0 1 roman 888" + ";slip 0 recto 2".repeat(12));
        Checks.is("the longest label of a leaf", "dccclxxxviii", Checks.leafLabel(roman, 0, 0));
        Checks.is("the longest label of a slip", "dccclxxxviii*lv", Checks.labelAt(roman, 24));
        Checks.is("length", 15, roman.formatLabel(24));
        Checks.is("its last byte", 'v', roman.formattedByte(14));
        Checks.refusesIndex("behind it", () -> roman.formattedByte(15));
        Checks.type(roman, "dccclxxxviii*lv");
        Checks.is("it is found", 24, roman.findLabel(0));
        Checks.is("it is there once", 1, roman.sameLabels(24));
    }

    /** "from: 0 to the number of places", "the first place, not before a given one" */
    private static void findLabelAtTheEnds() {
        PageArchive archive = Checks.loaded("quire 4;label 0 0 page 5;label 3 3 page 4;missing 1 2");
        Checks.type(archive, "5");
        Checks.is("at the first place", 0, archive.findLabel(0));
        Checks.is("at the last place", 3, archive.findLabel(1));
        Checks.is("from the place itself", 3, archive.findLabel(3));
        Checks.is("from the number of places", NONE, archive.findLabel(4));
        Checks.refusesArgument("1 more", () -> archive.findLabel(5));
        Checks.refusesArgument("1 less than 0", () -> archive.findLabel(-1));
        archive.lose(3);
        Checks.is("a missing leaf has no place", NONE, archive.findLabel(1));
        archive.lose(0);
        Checks.is("no places", NONE, archive.findLabel(0));
    }

    /** "has just the bytes of the input buffer as its label" */
    private static void findLabelOfOtherBytes() {
        PageArchive archive = Checks.loaded("quire 2;label 0 0 folio 12;slip 0 recto 2");
        String[] texts = {"12r", "12r*a", "12r*av", "12v", "12", "2r", "12r ", " 12r", "12R", "12r*", "12r*b", "12r*a v",
            "12r*avv", "012r"};
        int[] due = {0, 1, 2, 3, NONE, NONE, NONE, NONE, NONE, NONE, NONE, NONE, NONE, NONE};
        for (int i = 0; i < texts.length; i++) {
            archive.truncate(0);
            Checks.type(archive, texts[i]);
            Checks.is("findLabel of \"" + texts[i] + "\"", due[i], archive.findLabel(0));
        }
        archive.truncate(0);
        Checks.is("the empty buffer is an empty label", 4, archive.findLabel(0));
        Checks.is("the last empty label", 5, archive.findLabel(5));
        archive.label(1, 1, PAGE, 1);
        Checks.is("no empty label", NONE, archive.findLabel(0));
        for (int i = 0; i < 30; i++) {
            archive.append(0x31317272, -1, -1, -1, -1);
        }
        Checks.is("a full buffer is no label", NONE, archive.findLabel(0));
        Checks.is("it is kept", 600, archive.append(0, 0, 0, 0, 0));
    }

    /** "itself included", "Returns 1 or more." */
    private static void sameLabelsOneToAll() {
        PageArchive archive = Checks.loaded("quire 2;label 0 1 page 1");
        for (int place = 0; place < 4; place++) {
            Checks.is("itself alone", 1, archive.sameLabels(place));
        }
        archive.label(1, 1, PAGE, 1);
        for (int place = 0; place < 4; place++) {
            Checks.is("one other", 2, archive.sameLabels(place));
        }
        PageArchive all = Checks.loaded(SIXTY);
        Checks.is("all places, asked at the first one", 120, all.sameLabels(0));
        Checks.is("all places, asked at the last one", 120, all.sameLabels(119));
        all.attach(59, 1, 2);
        Checks.is("a slip's label is not empty", 120, all.sameLabels(119));
        Checks.is("asked at the slip", 1, all.sameLabels(121));
        Checks.refusesIndex("behind the last place", () -> all.sameLabels(122));
        all.lose(0);
        Checks.is("missing leaves have no place", 118, all.sameLabels(0));
    }
}
