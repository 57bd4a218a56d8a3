/** Promises 6 to 10 and 20 to 24: leaves, quires, slips, the collation. */
public final class LeavesTest {
    public static void main(String[] args) {
        lose();
        find();
        attach();
        attachUpToTheLimit();
        detach();
        label();
        numbersOfTheVolume();
        numbersOfLeaves();
        numbersOfSlips();
        collation();
        formattedBytes();
        Checks.end();
    }

    private static void lose() {
        PageArchive archive = Checks.loaded("quire 4;quire 2;slip 2 verso 1;slip 3 recto 1;missing 5");
        String before = Checks.picture(archive);
        Checks.refusesIndex("leaf -1", () -> archive.lose(-1));
        Checks.refusesIndex("leaf 6", () -> archive.lose(6));
        Checks.refusesIndex("greatest leaf", () -> archive.lose(Integer.MAX_VALUE));
        Checks.refusesState("a missing leaf", () -> archive.lose(5));
        Checks.refusesState("a slip on the verso", () -> archive.lose(2));
        Checks.refusesState("a slip on the recto", () -> archive.lose(3));
        Checks.is("nothing is changed", before, Checks.picture(archive));
        Checks.is("nothing to undo", 0, archive.undoCount());
        Checks.is("lose", 4, archive.lose(0));
        Checks.is("it is missing", 0, archive.leaf(0, 0));
        Checks.is("lose another", 3, archive.lose(4));
        archive.detach(0);
        archive.turn(1);
        archive.turn(1);
        Checks.is("a detached slip does not hold it", 2, archive.lose(2));
        Checks.is("the view goes to opening 0", 0, archive.view());
        Checks.is("the trail is empty", 0, archive.trailLength());
    }

    private static void find() {
        PageArchive archive = Checks.loaded("quire 4;missing 1 2");
        Checks.refusesIndex("leaf -1", () -> archive.find(-1));
        Checks.refusesIndex("leaf 4", () -> archive.find(4));
        Checks.refusesState("a present leaf", () -> archive.find(0));
        archive.turn(1);
        Checks.is("find", 3, archive.find(2));
        Checks.is("it is present", 1, archive.leaf(2, 0));
        Checks.is("the other one is not", 0, archive.leaf(1, 0));
        Checks.is("the view goes to opening 0", 0, archive.view());
        Checks.is("the trail is empty", 0, archive.trailLength());
        Checks.refusesState("found before", () -> archive.find(2));
    }

    private static void attach() {
        PageArchive archive = Checks.loaded("quire 4;missing 1");
        Checks.refusesIndex("leaf -1 before the side", () -> archive.attach(-1, 2, 0));
        Checks.refusesIndex("leaf 4 before the side", () -> archive.attach(4, 2, 0));
        Checks.refusesArgument("side 2 before the missing leaf", () -> archive.attach(1, 2, 1));
        Checks.refusesArgument("side -1", () -> archive.attach(0, -1, 1));
        Checks.refusesArgument("no sides before the missing leaf", () -> archive.attach(1, 0, 0));
        Checks.refusesArgument("three sides", () -> archive.attach(0, 0, 3));
        Checks.refusesState("a missing leaf", () -> archive.attach(1, 0, 1));
        Checks.is("nothing to undo", 0, archive.undoCount());
        Checks.is("slip 0", 0, archive.attach(2, 1, 2));
        Checks.is("slip 1", 1, archive.attach(0, 0, 1));
        Checks.is("the leaf of slip 0", 2, archive.slip(0, 0));
        Checks.is("the side of slip 0", 1, archive.slip(0, 1));
        Checks.is("the sides of slip 0", 2, archive.slip(0, 2));
        archive.detach(1);
        Checks.is("a number is not used again", 2, archive.attach(0, 0, 1));
    }

    private static void attachUpToTheLimit() {
        PageArchive archive = new PageArchive();
        for (int slip = 0; slip < 12; slip++) {
            Checks.is("attach", slip, archive.attach(0, 1, 1));
        }
        Checks.refusesState("a 13th slip", () -> archive.attach(0, 0, 1));
        archive.detach(5);
        Checks.refusesState("a detached slip counts", () -> archive.attach(0, 0, 1));
        Checks.refusesIndex("the leaf goes first", () -> archive.attach(2, 0, 1));
        Checks.refusesArgument("the side goes second", () -> archive.attach(0, 2, 1));
    }

    private static void detach() {
        PageArchive archive = Checks.loaded("quire 2;slip 0 recto 2;slip 0 recto 1;slip 1 verso 1");
        Checks.refusesIndex("slip -1", () -> archive.detach(-1));
        Checks.refusesIndex("slip 3", () -> archive.detach(3));
        Checks.is("detach", 2, archive.detach(1));
        Checks.refusesState("it is detached", () -> archive.detach(1));
        Checks.is("its leaf", PageArchive.NONE, archive.slip(1, 0));
        Checks.is("its side", PageArchive.NONE, archive.slip(1, 1));
        Checks.is("its sides", 1, archive.slip(1, 2));
        Checks.is("all slips", 3, archive.volume(3));
        Checks.is("detach", 1, archive.detach(0));
        Checks.is("detach the last one", 0, archive.detach(2));
        Checks.is("all slips", 3, archive.volume(3));
    }

    private static void label() {
        PageArchive archive = Checks.loaded("quire 4;missing 3");
        Checks.refusesIndex("from -1", () -> archive.label(-1, 0, 4, 0));
        Checks.refusesIndex("from 4", () -> archive.label(4, 3, 0, 1));
        Checks.refusesIndex("to 4", () -> archive.label(0, 4, 4, 0));
        Checks.refusesIndex("to -1 is no leaf, before it is less", () -> archive.label(0, -1, 0, 1));
        Checks.refusesArgument("to less than from", () -> archive.label(2, 1, 0, 1));
        Checks.refusesArgument("style -1", () -> archive.label(0, 1, -1, 1));
        Checks.refusesArgument("style 4", () -> archive.label(0, 1, 4, 1));
        Checks.refusesArgument("start 0", () -> archive.label(0, 1, 0, 0));
        Checks.refusesArgument("start 1000", () -> archive.label(0, 1, 0, 1000));
        Checks.is("nothing to undo", 0, archive.undoCount());
        Checks.is("one leaf", 1, archive.label(2, 2, 3, 1));
        Checks.is("greatest start", 2, archive.label(0, 3, 2, 999));
        for (int range = 3; range <= 12; range++) {
            Checks.is("label", range, archive.label(0, 0, 1, range));
        }
        Checks.refusesState("a 13th range", () -> archive.label(0, 0, 1, 1));
        Checks.refusesIndex("the leaf goes first", () -> archive.label(0, 4, 1, 1));
        Checks.refusesArgument("the style goes second", () -> archive.label(0, 0, 4, 1));
        Checks.is("ranges", 12, archive.volume(5));
        Checks.is("the latest range holds", "12", Checks.leafLabel(archive, 0, 0));
    }

    private static void numbersOfTheVolume() {
        PageArchive archive = Checks.loaded(
                "quire 4;quire 6;quire 2;missing 3 5;slip 0 recto 2;slip 1 verso 1;label 0 1 page 1");
        archive.detach(0);
        int[] due = {3, 12, 9, 2, 1, 1};
        for (int what = 0; what < due.length; what++) {
            Checks.is("volume " + what, due[what], archive.volume(what));
        }
        Checks.refusesArgument("volume -1", () -> archive.volume(-1));
        Checks.refusesArgument("volume 6", () -> archive.volume(6));
        PageArchive full = Checks.loaded("quire 12;quire 12;quire 12;quire 12;quire 12;missing 0 59");
        Checks.is("60 leaves", 60, full.volume(1));
        Checks.is("no present ones", 0, full.volume(2));
    }

    private static void numbersOfLeaves() {
        PageArchive archive = Checks.loaded(
                "quire 4;quire 6;quire 2;missing 3 5;slip 6 recto 2;slip 6 recto 1;slip 6 verso 2;slip 0 verso 1");
        int[][] due = {
            {1, 0, 0, 3, 0, 1}, {1, 0, 1, 2, 0, 0}, {1, 0, 2, 1, 0, 0}, {0, 0, 3, 0, 0, 0},
            {0, 1, 0, 9, 0, 0}, {0, 1, 1, 8, 0, 0}, {1, 1, 2, 7, 2, 1}, {1, 1, 3, 6, 0, 0},
            {1, 1, 4, 5, 0, 0}, {1, 1, 5, 4, 0, 0}, {1, 2, 0, 11, 0, 0}, {1, 2, 1, 10, 0, 0}};
        for (int leaf = 0; leaf < due.length; leaf++) {
            for (int what = 0; what < 6; what++) {
                Checks.is("leaf " + leaf + ", " + what, due[leaf][what], archive.leaf(leaf, what));
            }
        }
        archive.detach(0);
        Checks.is("a detached slip is on no side", 1, archive.leaf(6, 4));
        Checks.refusesIndex("leaf -1 before what", () -> archive.leaf(-1, 6));
        Checks.refusesIndex("leaf 12 before what", () -> archive.leaf(12, -1));
        Checks.refusesArgument("what -1", () -> archive.leaf(0, -1));
        Checks.refusesArgument("what 6", () -> archive.leaf(0, 6));
    }

    private static void numbersOfSlips() {
        PageArchive archive = Checks.loaded("quire 4;slip 3 verso 2;slip 1 recto 1");
        int[][] due = {{3, 1, 2}, {1, 0, 1}};
        for (int slip = 0; slip < due.length; slip++) {
            for (int what = 0; what < 3; what++) {
                Checks.is("slip " + slip + ", " + what, due[slip][what], archive.slip(slip, what));
            }
        }
        Checks.refusesIndex("slip -1 before what", () -> archive.slip(-1, 3));
        Checks.refusesIndex("slip 2 before what", () -> archive.slip(2, 3));
        Checks.refusesArgument("what -1", () -> archive.slip(0, -1));
        Checks.refusesArgument("what 3", () -> archive.slip(0, 3));
    }

    private static void collation() {
        Checks.is("one quire", "A2", Checks.collation(new PageArchive()));
        Checks.is("missing leaves", "A4(-2,4) B2 C12(-1,10,11,12)",
                Checks.collation(Checks.loaded("quire 4;quire 2;quire 12;missing 1;missing 3;missing 6;missing 15 17")));
        String all = "12(-1,2,3,4,5,6,7,8,9,10,11,12)";
        Checks.is("the longest one", "A" + all + " B" + all + " C" + all + " D" + all + " E" + all,
                Checks.collation(Checks.loaded("quire 12;quire 12;quire 12;quire 12;quire 12;missing 0 59")));
        Checks.is("eight quires", "A2 B2 C2 D2 E2 F2 G2 H10(-10)", Checks.collation(Checks.loaded(
                "quire 2;quire 2;quire 2;quire 2;quire 2;quire 2;quire 2;quire 10;missing 23")));
    }

    private static void formattedBytes() {
        PageArchive archive = new PageArchive();
        Checks.refusesIndex("an empty text", () -> archive.formattedByte(0));
        archive.lose(1);
        Checks.is("length", 6, archive.formatCollation());
        Checks.is("first", 'A', archive.formattedByte(0));
        Checks.is("last", ')', archive.formattedByte(5));
        Checks.refusesIndex("behind the last", () -> archive.formattedByte(6));
        Checks.refusesIndex("before the first", () -> archive.formattedByte(-1));
        Checks.refusesIndex("greatest", () -> archive.formattedByte(Integer.MAX_VALUE));
        archive.find(1);
        Checks.is("the text stays", ')', archive.formattedByte(5));
        Checks.is("a shorter text replaces it", 2, archive.formatCollation());
        Checks.refusesIndex("nothing is left of it", () -> archive.formattedByte(2));
        Checks.is("an empty label", 0, archive.formatLabel(0));
        Checks.refusesIndex("replaces it too", () -> archive.formattedByte(0));
    }
}
