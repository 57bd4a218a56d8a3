/** Section 7 and the promises 1 to 5: the empty and the full buffer, and each reason why a token is not accepted. */
public final class SetupLimitsTest {
    private static final int NONE = PageArchive.NONE;
    private static final String SIXTY = "quire 12;quire 12;quire 12;quire 12;quire 12";

    public static void main(String[] args) {
        emptyAndFullBuffer();
        bytesOfABuffer();
        oneOrMoreStatements();
        firstStatement();
        tokens();
        spaces();
        fourDigits();
        numbersOfLeaves();
        leafThatDoesNotExist();
        leavesOfTheQuiresBefore();
        toThatIsLess();
        missingAndSlips();
        slipOnAMissingLeaf();
        sidesAndStyles();
        startOfALabel();
        tooManyStatements();
        wordsBeforeNumbers();
        textEndsTooEarly();
        tokensThatCannotFollow();
        newObject();
        loadOfTheLeastAndTheLargest();
        loadLeavesNothingBehind();
        checkingChangesNothing();
        Checks.end();
    }

    /** "if the buffer would have more than 600 bytes (nothing is appended then)" */
    private static void emptyAndFullBuffer() {
        PageArchive archive = new PageArchive();
        Checks.is("empty at first", 0, archive.append(0, 0, 0, 0, 0));
        Checks.is("an empty text", 0, archive.errorPosition());
        Checks.is("truncate", 0, archive.truncate(0));
        Checks.refusesArgument("truncate to 1", () -> archive.truncate(1));
        Checks.is("600 bytes", 600, Checks.type(archive, " ".repeat(593) + "quire 4"));
        Checks.is("a full text is valid", NONE, archive.errorPosition());
        Checks.refusesState("601 bytes", () -> archive.append(0, 0, 0, 0, ' '));
        Checks.is("no bytes are taken", 600, archive.append(0, 0, 0, 0, 0));
        Checks.is("truncate to 600", 600, archive.truncate(600));
        Checks.refusesArgument("truncate to 601", () -> archive.truncate(601));
        Checks.is("truncate to 599", 599, archive.truncate(599));
        Checks.is("it ends too early", 599, archive.errorPosition());
        Checks.is("the 600th byte", 600, archive.append('6', 0, 0, 0, 0));
        Checks.is("load of a full buffer", 6, archive.load());
        Checks.is("it is empty", 0, archive.append(0, 0, 0, 0, 0));
        Checks.reads(" ".repeat(600) + "^");
        Checks.reads("quire 4" + " ".repeat(592) + "^x");
        Checks.reads("quire 4;missing 0" + ";missing 0".repeat(58) + "   ");
        Checks.reads("quire 4;missing 0" + ";missing 0".repeat(58) + "  ;^");
        Checks.reads("^" + "a".repeat(600));
        Checks.reads("quire ^" + "2".repeat(594));
        Checks.reads("^" + ";".repeat(600));
    }

    /** "the most significant byte first. Bytes with the value 0 are skipped." */
    private static void bytesOfABuffer() {
        PageArchive archive = new PageArchive();
        archive.append('q', 'u' << 8, 'i' << 16, 'r' << 24, 0x65002000);
        Checks.is("zeros between", 7, archive.append(0x34 << 24, 0, 0, 0, 0));
        Checks.is("the text", NONE, archive.errorPosition());
        Checks.is("four bytes and none", 11, archive.append(0x3b717569, 0, 0, 0, 0));
        Checks.is("20 bytes", 31, archive.append(0x72652032, 0x3b6d6973, 0x73696e67, 0x20303b6d, 0x69737369));
        Checks.is("the word is cut", 26, archive.errorPosition());
        archive.append(0, 0x6e672035, 0, 0, 0);
        Checks.is("the text", NONE, archive.errorPosition());
        Checks.is("load", 6, archive.load());
        Checks.is("the first leaf is missing", 0, archive.leaf(0, 0));
        Checks.is("the last leaf is missing", 0, archive.leaf(5, 0));
        Checks.is("byte 255", 1, archive.append(0xff000000, 0, 0, 0, 0));
        Checks.is("byte 128", 2, archive.append(0, 0x00800000, 0, 0, 0));
        Checks.is("byte 1", 3, archive.append(0, 0, 0, 0, 1));
        Checks.is("they are no text", 0, archive.errorPosition());
    }

    /** "a list of one or more statements separated by semicolons" */
    private static void oneOrMoreStatements() {
        Checks.reads("^");
        Checks.reads("quire 2");
        Checks.reads("quire 2;^");
        Checks.reads("^;");
        Checks.reads("^;quire 2");
        Checks.reads("quire 2;^;quire 2");
        Checks.reads("quire 2;quire 2;^");
        Checks.reads("quire 2 ^quire 2");
        Checks.reads("quire 2^,quire 2");
        Checks.reads("quire 2^:quire 2");
        Checks.reads("quire 2;missing 1^.");
    }

    /** "quire N: the first statement; others follow it or come later" */
    private static void firstStatement() {
        Checks.reads("^missing 0;quire 2");
        Checks.reads("^slip 0 recto 1;quire 2");
        Checks.reads("^label 0 0 page 1;quire 2");
        Checks.reads("quire 2;missing 0;quire 2;quire 2");
        Checks.reads("quire 2;slip 0 recto 1;label 0 1 page 1;missing 1;quire 2");
    }

    /** "words (maximal runs of the letters a to z), numbers (maximal runs of digits, at most four)" */
    private static void tokens() {
        Checks.reads("^quir");
        Checks.reads("^quiree 2");
        Checks.reads("^quirequire 2");
        Checks.reads("^Quire 2");
        Checks.reads("^quirE 2");
        Checks.reads("^qu1ire 2");
        Checks.reads("^quirez 2");
        Checks.reads("^quirea 2");
        Checks.reads("^zquire 2");
        Checks.reads("^wuire 2");
        Checks.reads("quire 2;^aissing 0");
        Checks.reads("quire 2;^alip 0 recto 1");
        Checks.reads("quire 2;^aabel 0 1 page 1");
        Checks.reads("quire^@2");
        Checks.reads("quire^[2");
        Checks.reads("quire^`2");
        Checks.reads("quire^{2");
        Checks.reads("quire^/2");
        Checks.reads("quire^:2");
        Checks.reads("quire ^+2");
        Checks.reads("quire ^-2");
        Checks.reads("quire 2^.0");
        Checks.reads("quire2");
        Checks.reads("quire 2;missing0");
        Checks.reads("quire 4;missing 0 1^missing");
        Checks.reads("quire 4;missing ^12");
        Checks.reads("quire 4;missing 1 2");
        Checks.reads("quire 4;label 0 1page1");
        Checks.reads("quire 4;label 01^page 1");
        Checks.reads("quire 4;slip0recto1;slip1verso2");
        Checks.reads("quire 4;slip 0^rectoverso 1");
    }

    /** "Spaces (byte 32) may stand before and after every token." */
    private static void spaces() {
        Checks.reads("  quire  4  ;  missing  0  1  ;  slip  2  recto  1  ;  label  0  3  page  1  ");
        Checks.reads("^" + (char) 31 + "quire 2");
        Checks.reads("^" + (char) 33 + "quire 2");
        Checks.reads("quire^" + (char) 9 + "2");
        Checks.reads("quire 2^" + (char) 10);
        Checks.reads("quire 2^" + (char) 13);
        Checks.reads("quire 2^" + (char) 160);
        Checks.reads("quire 2^" + (char) 1);
        Checks.reads("quire 2^" + (char) 255);
        Checks.reads("   ^");
        Checks.reads("   ^missing 0");
        Checks.reads("quire 2   ^2");
        Checks.reads("quire   ^3");
        Checks.reads("quire 2;   ^");
        Checks.reads("^q uire 2");
        Checks.reads("quire ^1 2");
    }

    /** "a number out of its range or of more than four digits" */
    private static void fourDigits() {
        Checks.reads("quire 02");
        Checks.reads("quire 002");
        Checks.reads("quire 0002");
        Checks.reads("quire ^00002");
        Checks.reads("quire ^9999");
        Checks.reads("quire ^10000");
        Checks.reads("quire ^4294967298");
        Checks.reads("quire ^65538");
        Checks.reads("quire 2;missing 0000");
        Checks.reads("quire 2;missing ^00000");
        Checks.reads("quire 2;missing 0 0001");
        Checks.reads("quire 2;missing 0 ^00001");
        Checks.reads("quire 2;slip 0001 recto 0002");
        Checks.reads("quire 2;slip ^00001 recto 1");
        Checks.reads("quire 2;slip 1 recto ^00001");
        Checks.reads("quire 2;label 0000 0001 page 0999");
        Checks.reads("quire 2;label ^00000 1 page 1");
        Checks.reads("quire 2;label 0 ^00001 page 1");
        Checks.reads("quire 2;label 0 1 page ^00999");
        Checks.reads("quire 2 ^00002");
    }

    /** "an odd number of leaves, a number of leaves by which there would be more than 60" */
    private static void numbersOfLeaves() {
        for (int leaves = 0; leaves <= 16; leaves++) {
            boolean isTaken = leaves >= 2 && leaves <= 12 && leaves % 2 == 0;
            Checks.reads("quire " + (isTaken ? "" : "^") + leaves);
            Checks.reads("quire 2;quire " + (isTaken ? "" : "^") + leaves);
        }
        Checks.reads(SIXTY);
        Checks.reads(SIXTY + ";quire ^2");
        Checks.reads(SIXTY + ";quire ^12");
        Checks.reads("quire 12;quire 12;quire 12;quire 12;quire 10;quire 2");
        Checks.reads("quire 12;quire 12;quire 12;quire 12;quire 10;quire ^4");
        Checks.reads("quire 12;quire 12;quire 12;quire 12;quire 2;quire 10");
        Checks.reads("quire 12;quire 12;quire 12;quire 12;quire 2;quire ^12");
        Checks.reads(SIXTY + ";missing 59;label 0 59 page 1;slip 58 verso 2");
    }

    /** "a LEAF that does not exist, a TO that does not exist" */
    private static void leafThatDoesNotExist() {
        Checks.reads("quire 4;missing 3");
        Checks.reads("quire 4;missing ^4");
        Checks.reads("quire 4;missing ^9999");
        Checks.reads("quire 4;missing 0 3");
        Checks.reads("quire 4;missing 0 ^4");
        Checks.reads("quire 4;missing 3 ^4");
        Checks.reads("quire 4;slip 3 recto 1");
        Checks.reads("quire 4;slip ^4 recto 1");
        Checks.reads("quire 4;label 3 3 page 1");
        Checks.reads("quire 4;label ^4 4 page 1");
        Checks.reads("quire 4;label 0 ^4 page 1");
        Checks.reads(SIXTY + ";missing 0 59");
        Checks.reads(SIXTY + ";missing 0 ^60");
        Checks.reads(SIXTY + ";missing ^60");
        Checks.reads(SIXTY + ";slip 59 verso 2");
        Checks.reads(SIXTY + ";slip ^60 verso 2");
        Checks.reads(SIXTY + ";label 59 59 none 999");
        Checks.reads(SIXTY + ";label 59 ^60 none 999");
        Checks.reads(SIXTY + ";label ^60 60 none 999");
    }

    /** "Leaves are those of the quires that stand before the statement." */
    private static void leavesOfTheQuiresBefore() {
        Checks.reads("quire 2;missing ^2;quire 2");
        Checks.reads("quire 2;quire 2;missing 2");
        Checks.reads("quire 2;missing 1 ^2;quire 2");
        Checks.reads("quire 2;slip ^2 recto 1;quire 2");
        Checks.reads("quire 2;quire 2;slip 3 recto 1");
        Checks.reads("quire 2;label 0 ^2 page 1;quire 2");
        Checks.reads("quire 2;label ^3 3 page 1;quire 2");
        Checks.reads("quire 2;quire 2;label 0 3 page 1");
        PageArchive archive = Checks.loaded("quire 2;missing 0 1;label 0 1 page 1;quire 2");
        Checks.is("later leaves are present", 1, archive.leaf(2, 0));
        Checks.is("later leaves have no label", "", Checks.leafLabel(archive, 2, 0));
    }

    /** "a TO that does not exist or is less than LEAF" */
    private static void toThatIsLess() {
        Checks.reads("quire 4;missing 2 2");
        Checks.reads("quire 4;missing 2 3");
        Checks.reads("quire 4;missing 2 ^1");
        Checks.reads("quire 4;missing 1 ^0");
        Checks.reads("quire 4;label 2 2 page 1");
        Checks.reads("quire 4;label 2 3 page 1");
        Checks.reads("quire 4;label 2 ^1 page 1");
        Checks.reads("quire 4;label 3 ^0 page 1");
    }

    /** "a LEAF, or a TO, by which a leaf with a slip would be missing" */
    private static void missingAndSlips() {
        String slip = "quire 6;slip 2 recto 1;";
        Checks.reads(slip + "missing ^2");
        Checks.reads(slip + "missing ^2 2");
        Checks.reads(slip + "missing ^2 5");
        Checks.reads(slip + "missing 1 ^2");
        Checks.reads(slip + "missing 0 ^3");
        Checks.reads(slip + "missing 0 ^5");
        Checks.reads(slip + "missing 0 1");
        Checks.reads(slip + "missing 3 5");
        Checks.reads(slip + "missing 1;missing 3");
        Checks.reads(slip + "missing 3 ^1");
        Checks.reads(slip + "missing 0 ^6");
        Checks.reads("quire 6;slip 2 verso 2;missing ^2");
        Checks.reads("quire 6;slip 0 recto 1;missing ^0 1");
        Checks.reads("quire 6;slip 5 verso 1;missing 4 ^5");
        Checks.reads("quire 6;slip 5 verso 1;missing 0 4");
        Checks.reads("quire 6;slip 0 recto 1;slip 5 recto 1;missing 1 4");
        Checks.reads("quire 6;missing 2;missing 2");
        Checks.reads("quire 6;missing 1 3;missing 0 5");
    }

    /** "the LEAF of a slip that is missing" */
    private static void slipOnAMissingLeaf() {
        String missing = "quire 6;missing 2 3;";
        Checks.reads(missing + "slip 1 recto 1");
        Checks.reads(missing + "slip ^2 recto 1");
        Checks.reads(missing + "slip ^3 recto 1");
        Checks.reads(missing + "slip 4 recto 1");
        Checks.reads("quire 2;missing 0 1;slip ^1 recto 1");
        Checks.reads("quire 2;missing 0 1;quire 2;slip 2 verso 1");
        Checks.reads("quire 4;slip 1 recto 1;slip 1 recto 2;slip 1 verso 1");
    }

    /** "SIDE is recto or verso, N is 1 or 2", "STYLE is folio, page, roman or none" */
    private static void sidesAndStyles() {
        Checks.reads("quire 2;slip 0 recto 1");
        Checks.reads("quire 2;slip 0 verso 2");
        Checks.reads("quire 2;slip 0 recto ^0");
        Checks.reads("quire 2;slip 0 verso ^3");
        Checks.reads("quire 2;slip 0 ^rect 1");
        Checks.reads("quire 2;slip 0 ^versos 1");
        Checks.reads("quire 2;slip 0 ^page 1");
        Checks.reads("quire 2;slip 0 ^1 1");
        Checks.reads("quire 2;slip 0 recto ^verso");
        for (String style : new String[] {"folio", "page", "roman", "none"}) {
            Checks.reads("quire 2;label 0 1 " + style + " 1");
            Checks.reads("quire 2;label 0 1 ^" + style + "s 1");
            Checks.reads("quire 2;label 0 1 ^" + style.substring(0, style.length() - 1) + " 1");
        }
        Checks.reads("quire 2;label 0 1 ^recto 1");
        Checks.reads("quire 2;label 0 1 ^1 1");
        Checks.reads("quire 2;label 0 ^page 1");
    }

    private static void startOfALabel() {
        Checks.reads("quire 2;label 0 1 page ^0");
        Checks.reads("quire 2;label 0 1 page 1");
        Checks.reads("quire 2;label 0 1 page 999");
        Checks.reads("quire 2;label 0 1 page ^1000");
        Checks.reads("quire 2;label 0 1 page ^9999");
        Checks.reads("quire 2;label 0 1 none ^0");
        Checks.reads("quire 2;label 0 1 none ^1000");
        Checks.reads("quire 2;label 0 1 page ^page");
    }

    /** "the word of a statement of which there are too many (a 9th quire, a 13th slip or label)" */
    private static void tooManyStatements() {
        String eight = "quire 2" + ";quire 2".repeat(7);
        Checks.reads(eight);
        Checks.reads(eight + ";^quire 2");
        Checks.reads(eight + ";^quire 3");
        Checks.reads(eight + ";^quire");
        Checks.reads(eight + ";missing 15;slip 14 recto 1;label 0 15 page 1");
        Checks.reads("quire 8;quire 8;quire 8;quire 8;quire 8;quire 8;quire 8;quire 4;^quire 2");
        String slips = "quire 2" + ";slip 0 recto 1".repeat(12);
        Checks.reads(slips);
        Checks.reads(slips + ";^slip 0 recto 1");
        Checks.reads(slips + ";^slip 9 recto 1");
        Checks.reads(slips + ";^slip");
        Checks.reads(slips + ";missing 1;quire 2;label 0 3 page 1");
        String labels = "quire 2" + ";label 0 1 page 1".repeat(12);
        Checks.reads(labels);
        Checks.reads(labels + ";^label 0 1 page 1");
        Checks.reads(labels + ";^label 9 9 page 1");
        Checks.reads(labels + ";^label");
        Checks.reads(labels + ";missing 1;quire 2;slip 0 recto 1");
        Checks.reads("quire 2" + ";missing 0".repeat(40));
        Checks.reads("quire 2;slip 1 verso 2" + ";missing 0".repeat(13) + ";quire 2");
    }

    /** A word is taken though each number behind it must fail: the number is the token that is not accepted. */
    private static void wordsBeforeNumbers() {
        Checks.reads(SIXTY + ";quire^");
        Checks.reads(SIXTY + ";quire ^2");
        Checks.reads("quire 2;missing 0 1;slip^");
        Checks.reads("quire 2;missing 0 1;slip ^0 recto 1");
        Checks.reads("quire 2;slip 0 recto 1;slip 1 recto 1;missing^");
        Checks.reads("quire 2;slip 0 recto 1;slip 1 recto 1;missing ^1");
    }

    /** "or the length of the text if the text ends too early" */
    private static void textEndsTooEarly() {
        String[] parts = {"quire", "quire 4;", "quire 4;missing", "quire 4;slip", "quire 4;slip 0", "quire 4;slip 0 recto",
            "quire 4;label", "quire 4;label 0", "quire 4;label 0 1", "quire 4;label 0 1 page", "quire 4;missing 0;",
            "quire 4;missing 0 1;", "quire 4;slip 0 recto 1;", "quire 4;label 0 1 page 1;"};
        for (String part : parts) {
            Checks.reads(part + "^");
            Checks.reads(part + "  ^");
        }
        Checks.reads("quire 4;missing 0");
        Checks.reads("quire 4;missing 0  ");
    }

    /** "and every token with which no text can continue" */
    private static void tokensThatCannotFollow() {
        Checks.reads("^4");
        Checks.reads("^;");
        Checks.reads("^recto");
        Checks.reads("quire ^quire");
        Checks.reads("quire ^;");
        Checks.reads("quire 4 ^4");
        Checks.reads("quire 4 ^recto");
        Checks.reads("quire 4;^4");
        Checks.reads("quire 4;^recto");
        Checks.reads("quire 4;^leaf 1");
        Checks.reads("quire 4;missing ^;");
        Checks.reads("quire 4;missing 0 ^to");
        Checks.reads("quire 4;missing 0 1 ^2");
        Checks.reads("quire 4;missing 0^,1");
        Checks.reads("quire 4;missing 0^-1");
        Checks.reads("quire 4;slip ^recto");
        Checks.reads("quire 4;slip ^;");
        Checks.reads("quire 4;slip 0 ^;");
        Checks.reads("quire 4;slip 0 recto ^;");
        Checks.reads("quire 4;slip 0 recto 1 ^1");
        Checks.reads("quire 4;label ^page");
        Checks.reads("quire 4;label 0 ^;");
        Checks.reads("quire 4;label 0 1 ^;");
        Checks.reads("quire 4;label 0 1 page ^;");
        Checks.reads("quire 4;label 0 1 page 1 ^1");
        Checks.reads("quire 4;missing ^7;missing 8");
    }

    /** "as by the text "quire 2", with an empty input buffer" */
    private static void newObject() {
        PageArchive archive = new PageArchive();
        Checks.is("the buffer", 0, archive.append(0, 0, 0, 0, 0));
        Checks.is("as by the text", Checks.picture(Checks.loaded("quire 2")), Checks.picture(archive));
        Checks.is("NONE", -1, PageArchive.NONE);
        PageArchive other = new PageArchive();
        other.lose(0);
        Checks.type(other, "quire 4");
        Checks.is("objects share nothing", 2, archive.volume(2));
        Checks.is("nor the buffer", 0, archive.append(0, 0, 0, 0, 0));
    }

    private static void loadOfTheLeastAndTheLargest() {
        PageArchive archive = new PageArchive();
        Checks.type(archive, "quire2");
        Checks.is("the shortest text", 2, archive.load());
        Checks.type(archive, SIXTY + ";missing 58" + ";slip 59 verso 2".repeat(12) + ";label 0 59 roman 999".repeat(12));
        Checks.is("the most of all", 60, archive.load());
        int[] due = {5, 60, 59, 12, 12, 12};
        for (int what = 0; what < due.length; what++) {
            Checks.is("volume " + what, due[what], archive.volume(what));
        }
        Checks.is("placeCount", 142, archive.placeCount());
        Checks.is("the last label", "mcxviii*lv", Checks.labelAt(archive, 141));
        Checks.type(archive, SIXTY + ";missing 0 59");
        Checks.is("all are missing", 60, archive.load());
        Checks.is("present leaves", 0, archive.volume(2));
        Checks.is("slips of before are gone", 0, archive.volume(3));
        Checks.is("ranges of before are gone", 0, archive.volume(5));
    }

    /** "Replaces everything", "Nothing can be undone; the saved copy is removed." */
    private static void loadLeavesNothingBehind() {
        PageArchive archive = Makers.busy();
        archive.truncate(0);
        Checks.type(archive, "quire 4;quire 2");
        Checks.is("load", 6, archive.load());
        PageArchive fresh = Checks.loaded("quire 4;quire 2");
        Checks.is("as if it were new", Checks.picture(fresh), Checks.picture(archive));
        Checks.is("undoCount", 0, archive.undoCount());
        Checks.refusesState("undo", archive::undo);
        Checks.refusesState("restore", archive::restore);
        Checks.refusesState("goBack", archive::goBack);
        Checks.is("the buffer is empty", 0, archive.append(0, 0, 0, 0, 0));
        Checks.is("the first slip", 0, archive.attach(0, 0, 1));
        Checks.is("the first scan", 0, archive.scanLeaf(4, 0));
        Checks.is("the first range", 1, archive.label(0, 0, 0, 1));
        Checks.is("changes count from the load on", 3, archive.undoCount());
    }

    /** "Checks the input buffer as a setup text." */
    private static void checkingChangesNothing() {
        Scene valid = new Scene("valid", () -> typedIn("quire 12;missing 1 2;slip 3 recto 1;label 0 3 page 5"));
        valid.takes("errorPosition", NONE, x -> x.errorPosition());
        Scene wrong = new Scene("wrong", () -> typedIn("quire 12;missing 1 2;slip 2 recto 1;label 0 3 page 5"));
        wrong.takes("errorPosition", 26, x -> x.errorPosition());
        PageArchive checked = typedIn("quire 12;missing 1 2");
        PageArchive other = typedIn("quire 12;missing 1 2");
        checked.errorPosition();
        Checks.is("asked twice", NONE, checked.errorPosition());
        Checks.is("nothing is changed", Checks.picture(other), Checks.picture(checked));
        Checks.is("no change", other.undoCount(), checked.undoCount());
        Checks.is("the buffer is kept", 20, checked.append(0, 0, 0, 0, 0));
    }

    private static PageArchive typedIn(String text) {
        PageArchive archive = Makers.busy();
        archive.truncate(0);
        Checks.type(archive, text);
        return archive;
    }
}
