/**
 * Each exception of the promises 2 to 49: the first number on either side that is
 * refused and the numbers at the ends of the range of an int; where two things are
 * wrong, that the check which the document names first is made first; and "A call
 * that throws an exception changes nothing" (section 8).
 */
public final class RefusalsTest {
    private static final int LEAST = Integer.MIN_VALUE;
    private static final int GREATEST = Integer.MAX_VALUE;

    private static final Scene BUSY = new Scene("busy", Makers::busy);
    private static final Scene FRESH = new Scene("fresh", PageArchive::new);
    private static final Scene BARE = new Scene("bare", () -> Checks.loaded("quire 2;missing 0 1"));
    private static final Scene SLIPS = new Scene("12 slips", Makers::twelveSlips);
    private static final Scene RANGES = new Scene("12 ranges", Makers::twelveRanges);
    private static final Scene SCANS = new Scene("60 scans", Makers::sixtyScans);
    private static final Scene SHRUNK = new Scene("shrunk", Makers::shrunk);
    private static final Scene UNDONE = new Scene("undone", Makers::undone);

    public static void main(String[] args) {
        append();
        truncate();
        load();
        lose();
        find();
        attach();
        detach();
        label();
        scanLeaf();
        scanOpening();
        scanSlip();
        removeScan();
        moveScan();
        turn();
        goTo();
        goBack();
        volume();
        leaf();
        slip();
        formattedByte();
        sideAt();
        placeOf();
        formatLabel();
        formatLeafLabel();
        findLabel();
        sameLabels();
        opening();
        scan();
        showing();
        nextUncovered();
        firstMisplaced();
        undo();
        restore();
        whatALoadTookAway();
        whatAnUndoTookAway();
        Checks.end();
    }

    private static void append() {
        Scene full = new Scene("600 bytes", () -> Makers.filled(600));
        full.refusesState("a byte by a", x -> x.append(1 << 24, 0, 0, 0, 0));
        full.refusesState("a byte by b", x -> x.append(0, 1 << 16, 0, 0, 0));
        full.refusesState("a byte by c", x -> x.append(0, 0, 1 << 8, 0, 0));
        full.refusesState("a byte by d", x -> x.append(0, 0, 0, LEAST, 0));
        full.refusesState("a byte by e", x -> x.append(0, 0, 0, 0, 255));
        full.refusesState("20 bytes", x -> x.append(-1, -1, -1, -1, -1));
        new Scene("599 bytes", () -> Makers.filled(599)).refusesState("2 bytes", x -> x.append('a', 0, 0, 0, 'b'));
        new Scene("581 bytes", () -> Makers.filled(581)).refusesState("20 bytes", x -> x.append(-1, -1, -1, -1, -1));
        new Scene("582 bytes", () -> Makers.filled(582)).refusesState("19 bytes", x -> x.append(-1, -1, -1, -1, 0x10101));
    }

    private static void truncate() {
        BUSY.refusesArgument("truncate(-1)", x -> x.truncate(-1));
        BUSY.refusesArgument("truncate to 1 more", x -> x.truncate(20));
        BUSY.refusesArgument("truncate to the least", x -> x.truncate(LEAST));
        BUSY.refusesArgument("truncate to the greatest", x -> x.truncate(GREATEST));
        BUSY.refusesArgument("truncate to all the room", x -> x.truncate(600));
        FRESH.refusesArgument("truncate(1)", x -> x.truncate(1));
        FRESH.refusesArgument("truncate(-1)", x -> x.truncate(-1));
    }

    private static void load() {
        BUSY.refusesArgument("load of a wrong text", x -> x.load());
        FRESH.refusesArgument("load of an empty text", x -> x.load());
        new Scene("spaces", () -> typed("   ")).refusesArgument("load of spaces", x -> x.load());
        new Scene("early end", () -> typed("quire 4;")).refusesArgument("load of an early end", x -> x.load());
        new Scene("wrong end", () -> typed("quire 4;missing 1;")).refusesArgument("load", x -> x.load());
        new Scene("byte 255", () -> typed("quire 4" + (char) 255)).refusesArgument("load", x -> x.load());
    }

    private static PageArchive typed(String text) {
        PageArchive archive = new PageArchive();
        archive.scanLeaf(0, 0);
        archive.save();
        archive.lose(1);
        Checks.type(archive, text);
        return archive;
    }

    private static void lose() {
        BUSY.refusesIndex("lose(-1)", x -> x.lose(-1));
        BUSY.refusesIndex("lose(6)", x -> x.lose(6));
        BUSY.refusesIndex("lose the least", x -> x.lose(LEAST));
        BUSY.refusesIndex("lose the greatest", x -> x.lose(GREATEST));
        BUSY.refusesState("lose a missing leaf", x -> x.lose(4));
        BUSY.refusesState("lose with a slip on the recto", x -> x.lose(0));
        BUSY.refusesState("lose with a slip on the verso", x -> x.lose(3));
        BARE.refusesState("lose with none present", x -> x.lose(0));
    }

    private static void find() {
        BUSY.refusesIndex("find(-1)", x -> x.find(-1));
        BUSY.refusesIndex("find(6)", x -> x.find(6));
        BUSY.refusesIndex("find the least", x -> x.find(LEAST));
        BUSY.refusesIndex("find the greatest", x -> x.find(GREATEST));
        BUSY.refusesState("find a present leaf", x -> x.find(1));
        BUSY.refusesState("find a present leaf with a slip", x -> x.find(0));
    }

    private static void attach() {
        BUSY.refusesIndex("attach to -1", x -> x.attach(-1, 0, 1));
        BUSY.refusesIndex("attach to 6", x -> x.attach(6, 0, 1));
        BUSY.refusesIndex("attach to the least", x -> x.attach(LEAST, 0, 1));
        BUSY.refusesIndex("attach to the greatest", x -> x.attach(GREATEST, 0, 1));
        BUSY.refusesArgument("attach to side -1", x -> x.attach(1, -1, 1));
        BUSY.refusesArgument("attach to side 2", x -> x.attach(1, 2, 1));
        BUSY.refusesArgument("attach to the least side", x -> x.attach(1, LEAST, 1));
        BUSY.refusesArgument("attach to the greatest side", x -> x.attach(1, GREATEST, 1));
        BUSY.refusesArgument("attach with 0 sides", x -> x.attach(1, 0, 0));
        BUSY.refusesArgument("attach with 3 sides", x -> x.attach(1, 0, 3));
        BUSY.refusesArgument("attach with -1 sides", x -> x.attach(1, 0, -1));
        BUSY.refusesArgument("attach with the least sides", x -> x.attach(1, 0, LEAST));
        BUSY.refusesArgument("attach with the greatest sides", x -> x.attach(1, 0, GREATEST));
        BUSY.refusesState("attach to a missing leaf", x -> x.attach(4, 0, 1));
        SLIPS.refusesState("attach a 13th", x -> x.attach(0, 0, 1));
        SLIPS.refusesState("attach a 13th to a missing leaf", x -> x.attach(1, 0, 1));
        BUSY.refusesIndex("the leaf before the side", x -> x.attach(6, 2, 1));
        BUSY.refusesIndex("the leaf before the sides", x -> x.attach(-1, 0, 3));
        SLIPS.refusesIndex("the leaf before the 12 slips", x -> x.attach(2, 0, 1));
        SLIPS.refusesIndex("the leaf before all", x -> x.attach(-1, -1, 0));
        BUSY.refusesArgument("the side before the missing leaf", x -> x.attach(4, 2, 1));
        BUSY.refusesArgument("the sides before the missing leaf", x -> x.attach(4, 1, 0));
        SLIPS.refusesArgument("the side before the 12 slips", x -> x.attach(0, -1, 1));
        SLIPS.refusesArgument("the sides before the 12 slips", x -> x.attach(0, 0, 3));
    }

    private static void detach() {
        BUSY.refusesIndex("detach(-1)", x -> x.detach(-1));
        BUSY.refusesIndex("detach(3)", x -> x.detach(3));
        BUSY.refusesIndex("detach the least", x -> x.detach(LEAST));
        BUSY.refusesIndex("detach the greatest", x -> x.detach(GREATEST));
        BUSY.refusesState("detach a detached one", x -> x.detach(2));
        FRESH.refusesIndex("detach without slips", x -> x.detach(0));
        SLIPS.refusesIndex("detach(12)", x -> x.detach(12));
        SLIPS.refusesState("detach the detached one", x -> x.detach(5));
    }

    private static void label() {
        BUSY.refusesIndex("from -1", x -> x.label(-1, 1, 0, 1));
        BUSY.refusesIndex("from 6", x -> x.label(6, 5, 0, 1));
        BUSY.refusesIndex("from and to 6", x -> x.label(6, 6, 0, 1));
        BUSY.refusesIndex("to -1", x -> x.label(0, -1, 0, 1));
        BUSY.refusesIndex("to 6", x -> x.label(0, 6, 0, 1));
        BUSY.refusesIndex("from the least", x -> x.label(LEAST, 1, 0, 1));
        BUSY.refusesIndex("to the greatest", x -> x.label(0, GREATEST, 0, 1));
        BUSY.refusesArgument("to 1 less than from", x -> x.label(3, 2, 0, 1));
        BUSY.refusesArgument("style -1", x -> x.label(0, 1, -1, 1));
        BUSY.refusesArgument("style 4", x -> x.label(0, 1, 4, 1));
        BUSY.refusesArgument("the least style", x -> x.label(0, 1, LEAST, 1));
        BUSY.refusesArgument("the greatest style", x -> x.label(0, 1, GREATEST, 1));
        BUSY.refusesArgument("start 0", x -> x.label(0, 1, 0, 0));
        BUSY.refusesArgument("start 1000", x -> x.label(0, 1, 0, 1000));
        BUSY.refusesArgument("start 0 of the style none", x -> x.label(0, 1, 3, 0));
        BUSY.refusesArgument("start 1000 of the style none", x -> x.label(0, 1, 3, 1000));
        BUSY.refusesArgument("start -1", x -> x.label(0, 1, 0, -1));
        BUSY.refusesArgument("the least start", x -> x.label(0, 1, 0, LEAST));
        BUSY.refusesArgument("the greatest start", x -> x.label(0, 1, 0, GREATEST));
        RANGES.refusesState("a 13th range", x -> x.label(0, 1, 0, 1));
        BUSY.refusesIndex("from before to less than it", x -> x.label(6, 0, 0, 1));
        BUSY.refusesIndex("to before the style", x -> x.label(0, 6, 4, 1));
        BUSY.refusesIndex("to before the start", x -> x.label(0, 6, 0, 0));
        RANGES.refusesIndex("from before the 12 ranges", x -> x.label(-1, 1, 0, 1));
        RANGES.refusesIndex("to before the 12 ranges", x -> x.label(1, 4, 0, 1));
        RANGES.refusesArgument("to less before the 12 ranges", x -> x.label(1, 0, 0, 1));
        RANGES.refusesArgument("the style before the 12 ranges", x -> x.label(0, 1, 4, 1));
        RANGES.refusesArgument("the start before the 12 ranges", x -> x.label(0, 1, 0, 1000));
    }

    private static void scanLeaf() {
        BUSY.refusesIndex("leaf -1", x -> x.scanLeaf(-1, 0));
        BUSY.refusesIndex("leaf 6", x -> x.scanLeaf(6, 0));
        BUSY.refusesIndex("the least leaf", x -> x.scanLeaf(LEAST, 0));
        BUSY.refusesIndex("the greatest leaf", x -> x.scanLeaf(GREATEST, 0));
        BUSY.refusesArgument("side -1", x -> x.scanLeaf(0, -1));
        BUSY.refusesArgument("side 2", x -> x.scanLeaf(0, 2));
        BUSY.refusesArgument("the least side", x -> x.scanLeaf(0, LEAST));
        BUSY.refusesArgument("the greatest side", x -> x.scanLeaf(0, GREATEST));
        BUSY.refusesState("a missing leaf", x -> x.scanLeaf(4, 1));
        SCANS.refusesState("a 61st scan", x -> x.scanLeaf(0, 0));
        SCANS.refusesState("a 61st scan of a missing leaf", x -> x.scanLeaf(1, 0));
        BUSY.refusesIndex("the leaf before the side", x -> x.scanLeaf(6, 2));
        SCANS.refusesIndex("the leaf before the 60 scans", x -> x.scanLeaf(2, 0));
        BUSY.refusesArgument("the side before the missing leaf", x -> x.scanLeaf(4, 2));
        SCANS.refusesArgument("the side before the 60 scans", x -> x.scanLeaf(0, 2));
    }

    private static void scanOpening() {
        BUSY.refusesIndex("opening -1", x -> x.scanOpening(-1));
        BUSY.refusesIndex("opening 6", x -> x.scanOpening(6));
        BUSY.refusesIndex("the least opening", x -> x.scanOpening(LEAST));
        BUSY.refusesIndex("the greatest opening", x -> x.scanOpening(GREATEST));
        BARE.refusesState("neither side", x -> x.scanOpening(0));
        BARE.refusesIndex("opening 1 before the sides", x -> x.scanOpening(1));
        BARE.refusesIndex("opening -1 before the sides", x -> x.scanOpening(-1));
        SCANS.refusesState("a 61st scan", x -> x.scanOpening(0));
        SCANS.refusesIndex("the opening before the 60 scans", x -> x.scanOpening(2));
    }

    private static void scanSlip() {
        BUSY.refusesIndex("slip -1", x -> x.scanSlip(-1, 0));
        BUSY.refusesIndex("slip 3", x -> x.scanSlip(3, 0));
        BUSY.refusesIndex("the least slip", x -> x.scanSlip(LEAST, 0));
        BUSY.refusesIndex("the greatest slip", x -> x.scanSlip(GREATEST, 0));
        BUSY.refusesIndex("side -1", x -> x.scanSlip(0, -1));
        BUSY.refusesIndex("side 2 of two", x -> x.scanSlip(0, 2));
        BUSY.refusesIndex("side 1 of one", x -> x.scanSlip(1, 1));
        BUSY.refusesIndex("the least side", x -> x.scanSlip(0, LEAST));
        BUSY.refusesIndex("the greatest side", x -> x.scanSlip(0, GREATEST));
        BUSY.refusesState("a detached slip", x -> x.scanSlip(2, 1));
        BUSY.refusesIndex("the side before the detached slip", x -> x.scanSlip(2, 2));
        FRESH.refusesIndex("no slips", x -> x.scanSlip(0, 0));
        SCANS.refusesState("a 61st scan", x -> x.scanSlip(0, 0));
        SCANS.refusesState("a 61st scan of a detached slip", x -> x.scanSlip(1, 0));
        SCANS.refusesIndex("the slip before the 60 scans", x -> x.scanSlip(2, 0));
        SCANS.refusesIndex("the side before the 60 scans", x -> x.scanSlip(0, 1));
    }

    private static void removeScan() {
        BUSY.refusesIndex("scan -1", x -> x.removeScan(-1));
        BUSY.refusesIndex("scan 4", x -> x.removeScan(4));
        BUSY.refusesIndex("the least scan", x -> x.removeScan(LEAST));
        BUSY.refusesIndex("the greatest scan", x -> x.removeScan(GREATEST));
        FRESH.refusesIndex("no scans", x -> x.removeScan(0));
        SCANS.refusesIndex("scan 60", x -> x.removeScan(60));
    }

    private static void moveScan() {
        BUSY.refusesIndex("scan -1", x -> x.moveScan(-1, 0));
        BUSY.refusesIndex("scan 4", x -> x.moveScan(4, 0));
        BUSY.refusesIndex("to -1", x -> x.moveScan(0, -1));
        BUSY.refusesIndex("to 4", x -> x.moveScan(0, 4));
        BUSY.refusesIndex("the least scan", x -> x.moveScan(LEAST, 0));
        BUSY.refusesIndex("the greatest scan", x -> x.moveScan(GREATEST, 0));
        BUSY.refusesIndex("to the least", x -> x.moveScan(0, LEAST));
        BUSY.refusesIndex("to the greatest", x -> x.moveScan(0, GREATEST));
        BUSY.refusesIndex("scan 4 to itself", x -> x.moveScan(4, 4));
        FRESH.refusesIndex("no scans", x -> x.moveScan(0, 0));
        SCANS.refusesIndex("to 60", x -> x.moveScan(59, 60));
        SCANS.refusesIndex("scan 60", x -> x.moveScan(60, 59));
    }

    private static void turn() {
        BUSY.refusesArgument("by 0", x -> x.turn(0));
        BUSY.refusesState("before opening 0", x -> x.turn(-4));
        BUSY.refusesState("behind the last opening", x -> x.turn(3));
        BUSY.refusesState("by the least", x -> x.turn(LEAST));
        BUSY.refusesState("by the greatest, which goes beyond an int", x -> x.turn(GREATEST));
        BUSY.refusesState("by the greatest up to an int's end", x -> x.turn(GREATEST - 3));
        BUSY.refusesState("by the least up to an int's end", x -> x.turn(LEAST + 1));
        BARE.refusesArgument("by 0, before there is no other opening", x -> x.turn(0));
        BARE.refusesState("by 1", x -> x.turn(1));
        BARE.refusesState("by -1", x -> x.turn(-1));
        FRESH.refusesState("by -1 from opening 0", x -> x.turn(-1));
        FRESH.refusesState("by 3", x -> x.turn(3));
        FRESH.refusesState("by the least from opening 0", x -> x.turn(LEAST));
    }

    private static void goTo() {
        BUSY.refusesIndex("place -1", x -> x.goTo(-1));
        BUSY.refusesIndex("place 13", x -> x.goTo(13));
        BUSY.refusesIndex("the least place", x -> x.goTo(LEAST));
        BUSY.refusesIndex("the greatest place", x -> x.goTo(GREATEST));
        BARE.refusesIndex("no places", x -> x.goTo(0));
    }

    private static void goBack() {
        FRESH.refusesState("an empty trail", x -> x.goBack());
        SCANS.refusesState("an empty trail with a full history", x -> x.goBack());
        BARE.refusesState("an empty trail without leaves", x -> x.goBack());
    }

    private static void volume() {
        BUSY.refusesArgument("what -1", x -> x.volume(-1));
        BUSY.refusesArgument("what 6", x -> x.volume(6));
        BUSY.refusesArgument("the least what", x -> x.volume(LEAST));
        BUSY.refusesArgument("the greatest what", x -> x.volume(GREATEST));
    }

    private static void leaf() {
        BUSY.refusesIndex("leaf -1", x -> x.leaf(-1, 0));
        BUSY.refusesIndex("leaf 6", x -> x.leaf(6, 0));
        BUSY.refusesIndex("the least leaf", x -> x.leaf(LEAST, 3));
        BUSY.refusesIndex("the greatest leaf", x -> x.leaf(GREATEST, 3));
        BUSY.refusesArgument("what -1", x -> x.leaf(0, -1));
        BUSY.refusesArgument("what 6", x -> x.leaf(0, 6));
        BUSY.refusesArgument("the least what", x -> x.leaf(0, LEAST));
        BUSY.refusesArgument("the greatest what", x -> x.leaf(0, GREATEST));
        BUSY.refusesArgument("what 6 of a missing leaf", x -> x.leaf(4, 6));
        BUSY.refusesIndex("the leaf before what", x -> x.leaf(6, 6));
    }

    private static void slip() {
        BUSY.refusesIndex("slip -1", x -> x.slip(-1, 0));
        BUSY.refusesIndex("slip 3", x -> x.slip(3, 0));
        BUSY.refusesIndex("the least slip", x -> x.slip(LEAST, 2));
        BUSY.refusesIndex("the greatest slip", x -> x.slip(GREATEST, 2));
        BUSY.refusesArgument("what -1", x -> x.slip(0, -1));
        BUSY.refusesArgument("what 3", x -> x.slip(0, 3));
        BUSY.refusesArgument("the least what", x -> x.slip(0, LEAST));
        BUSY.refusesArgument("the greatest what", x -> x.slip(0, GREATEST));
        BUSY.refusesArgument("what 3 of a detached slip", x -> x.slip(2, 3));
        BUSY.refusesIndex("the slip before what", x -> x.slip(3, 3));
        FRESH.refusesIndex("no slips", x -> x.slip(0, 0));
        SLIPS.refusesIndex("slip 12", x -> x.slip(12, 0));
    }

    private static void formattedByte() {
        BUSY.refusesIndex("byte -1", x -> x.formattedByte(-1));
        BUSY.refusesIndex("byte 5", x -> x.formattedByte(5));
        BUSY.refusesIndex("the least byte", x -> x.formattedByte(LEAST));
        BUSY.refusesIndex("the greatest byte", x -> x.formattedByte(GREATEST));
        FRESH.refusesIndex("an empty text", x -> x.formattedByte(0));
        new Scene("empty label", RefusalsTest::emptyLabel).refusesIndex("byte 0", x -> x.formattedByte(0));
    }

    private static PageArchive emptyLabel() {
        PageArchive archive = new PageArchive();
        archive.formatCollation();
        archive.formatLabel(0);
        return archive;
    }

    private static void sideAt() {
        BUSY.refusesIndex("place -1", x -> x.sideAt(-1, 0));
        BUSY.refusesIndex("place 13", x -> x.sideAt(13, 0));
        BUSY.refusesIndex("the least place", x -> x.sideAt(LEAST, 0));
        BUSY.refusesIndex("the greatest place", x -> x.sideAt(GREATEST, 0));
        BUSY.refusesArgument("what -1", x -> x.sideAt(0, -1));
        BUSY.refusesArgument("what 4", x -> x.sideAt(0, 4));
        BUSY.refusesArgument("the least what", x -> x.sideAt(0, LEAST));
        BUSY.refusesArgument("the greatest what", x -> x.sideAt(0, GREATEST));
        BUSY.refusesIndex("the place before what", x -> x.sideAt(13, 4));
        BARE.refusesIndex("no places", x -> x.sideAt(0, 0));
        BARE.refusesIndex("no places before what", x -> x.sideAt(0, 4));
    }

    private static void placeOf() {
        BUSY.refusesIndex("leaf -1", x -> x.placeOf(-1, 0));
        BUSY.refusesIndex("leaf 6", x -> x.placeOf(6, 0));
        BUSY.refusesIndex("the least leaf", x -> x.placeOf(LEAST, 0));
        BUSY.refusesIndex("the greatest leaf", x -> x.placeOf(GREATEST, 0));
        BUSY.refusesArgument("side -1", x -> x.placeOf(0, -1));
        BUSY.refusesArgument("side 2", x -> x.placeOf(0, 2));
        BUSY.refusesArgument("the least side", x -> x.placeOf(0, LEAST));
        BUSY.refusesArgument("the greatest side", x -> x.placeOf(0, GREATEST));
        BUSY.refusesArgument("side 2 of a missing leaf", x -> x.placeOf(4, 2));
        BUSY.refusesIndex("the leaf before the side", x -> x.placeOf(6, 2));
    }

    private static void formatLabel() {
        BUSY.refusesIndex("place -1", x -> x.formatLabel(-1));
        BUSY.refusesIndex("place 13", x -> x.formatLabel(13));
        BUSY.refusesIndex("the least place", x -> x.formatLabel(LEAST));
        BUSY.refusesIndex("the greatest place", x -> x.formatLabel(GREATEST));
        BARE.refusesIndex("no places", x -> x.formatLabel(0));
    }

    private static void formatLeafLabel() {
        BUSY.refusesIndex("leaf -1", x -> x.formatLeafLabel(-1, 0));
        BUSY.refusesIndex("leaf 6", x -> x.formatLeafLabel(6, 0));
        BUSY.refusesIndex("the least leaf", x -> x.formatLeafLabel(LEAST, 0));
        BUSY.refusesIndex("the greatest leaf", x -> x.formatLeafLabel(GREATEST, 0));
        BUSY.refusesArgument("side -1", x -> x.formatLeafLabel(0, -1));
        BUSY.refusesArgument("side 2", x -> x.formatLeafLabel(0, 2));
        BUSY.refusesArgument("the least side", x -> x.formatLeafLabel(0, LEAST));
        BUSY.refusesArgument("the greatest side", x -> x.formatLeafLabel(0, GREATEST));
        BUSY.refusesIndex("the leaf before the side", x -> x.formatLeafLabel(6, 2));
    }

    private static void findLabel() {
        BUSY.refusesArgument("from -1", x -> x.findLabel(-1));
        BUSY.refusesArgument("from 14", x -> x.findLabel(14));
        BUSY.refusesArgument("from the least", x -> x.findLabel(LEAST));
        BUSY.refusesArgument("from the greatest", x -> x.findLabel(GREATEST));
        BARE.refusesArgument("from 1 without places", x -> x.findLabel(1));
        BARE.refusesArgument("from -1 without places", x -> x.findLabel(-1));
    }

    private static void sameLabels() {
        BUSY.refusesIndex("place -1", x -> x.sameLabels(-1));
        BUSY.refusesIndex("place 13", x -> x.sameLabels(13));
        BUSY.refusesIndex("the least place", x -> x.sameLabels(LEAST));
        BUSY.refusesIndex("the greatest place", x -> x.sameLabels(GREATEST));
        BARE.refusesIndex("no places", x -> x.sameLabels(0));
    }

    private static void opening() {
        BUSY.refusesIndex("opening -1", x -> x.opening(-1, 0));
        BUSY.refusesIndex("opening 6", x -> x.opening(6, 0));
        BUSY.refusesIndex("the least opening", x -> x.opening(LEAST, 2));
        BUSY.refusesIndex("the greatest opening", x -> x.opening(GREATEST, 2));
        BUSY.refusesArgument("what -1", x -> x.opening(0, -1));
        BUSY.refusesArgument("what 5", x -> x.opening(0, 5));
        BUSY.refusesArgument("the least what", x -> x.opening(0, LEAST));
        BUSY.refusesArgument("the greatest what", x -> x.opening(0, GREATEST));
        BUSY.refusesIndex("the opening before what", x -> x.opening(6, 5));
        BARE.refusesIndex("opening 1 without present leaves", x -> x.opening(1, 0));
        BARE.refusesArgument("what 5 without present leaves", x -> x.opening(0, 5));
    }

    private static void scan() {
        BUSY.refusesIndex("scan -1", x -> x.scan(-1, 0));
        BUSY.refusesIndex("scan 4", x -> x.scan(4, 0));
        BUSY.refusesIndex("the least scan", x -> x.scan(LEAST, 1));
        BUSY.refusesIndex("the greatest scan", x -> x.scan(GREATEST, 1));
        BUSY.refusesArgument("what -1", x -> x.scan(0, -1));
        BUSY.refusesArgument("what 4", x -> x.scan(0, 4));
        BUSY.refusesArgument("the least what", x -> x.scan(0, LEAST));
        BUSY.refusesArgument("the greatest what", x -> x.scan(0, GREATEST));
        BUSY.refusesIndex("the scan before what", x -> x.scan(4, 4));
        FRESH.refusesIndex("no scans", x -> x.scan(0, 0));
        SCANS.refusesIndex("scan 60", x -> x.scan(60, 0));
    }

    private static void showing() {
        BUSY.refusesIndex("place -1", x -> x.showing(-1));
        BUSY.refusesIndex("place 13", x -> x.showing(13));
        BUSY.refusesIndex("the least place", x -> x.showing(LEAST));
        BUSY.refusesIndex("the greatest place", x -> x.showing(GREATEST));
        BARE.refusesIndex("no places", x -> x.showing(0));
    }

    private static void nextUncovered() {
        BUSY.refusesArgument("from -1", x -> x.nextUncovered(-1));
        BUSY.refusesArgument("from 14", x -> x.nextUncovered(14));
        BUSY.refusesArgument("from the least", x -> x.nextUncovered(LEAST));
        BUSY.refusesArgument("from the greatest", x -> x.nextUncovered(GREATEST));
        BARE.refusesArgument("from 1 without places", x -> x.nextUncovered(1));
        BARE.refusesArgument("from -1 without places", x -> x.nextUncovered(-1));
    }

    private static void firstMisplaced() {
        Class<java.util.NoSuchElementException> none = java.util.NoSuchElementException.class;
        FRESH.refuses("no scans", none, x -> x.firstMisplaced());
        new Scene("one scan", () -> Makers.scanned(0)).refuses("firstMisplaced", none, x -> x.firstMisplaced());
        new Scene("equal", () -> Makers.scanned(1, 1, 1)).refuses("firstMisplaced", none, x -> x.firstMisplaced());
        new Scene("rising", () -> Makers.scanned(0, 1, 3)).refuses("firstMisplaced", none, x -> x.firstMisplaced());
        Scene unplaced = new Scene("unplaced", () -> {
            PageArchive archive = Makers.scanned(3, 0);
            archive.lose(0);
            return archive;
        });
        unplaced.refuses("firstMisplaced", none, x -> x.firstMisplaced());
    }

    private static void undo() {
        FRESH.refusesState("nothing to undo", x -> x.undo());
        SHRUNK.refusesState("nothing to undo behind a load", x -> x.undo());
        UNDONE.refusesState("all is undone", x -> x.undo());
        new Scene("restored", RefusalsTest::restored).refusesState("nothing behind a restore", x -> x.undo());
    }

    private static PageArchive restored() {
        PageArchive archive = Makers.busy();
        archive.restore();
        return archive;
    }

    private static void restore() {
        FRESH.refusesState("no copy", x -> x.restore());
        SHRUNK.refusesState("a load removed it", x -> x.restore());
        SLIPS.refusesState("changes make none", x -> x.restore());
    }

    private static void whatALoadTookAway() {
        SHRUNK.refusesIndex("a leaf that was missing", x -> x.find(3));
        SHRUNK.refusesIndex("the last leaf that was missing", x -> x.lose(5));
        SHRUNK.refusesIndex("a leaf that was present", x -> x.lose(2));
        SHRUNK.refusesIndex("the label of a leaf", x -> x.formatLeafLabel(5, 0));
        SHRUNK.refusesIndex("a range up to it", x -> x.label(0, 2, 0, 1));
        SHRUNK.refusesIndex("a slip", x -> x.slip(0, 0));
        SHRUNK.refusesIndex("a scan of a slip", x -> x.scanSlip(1, 0));
        SHRUNK.refusesIndex("a scan", x -> x.scan(0, 0));
        SHRUNK.refusesIndex("an opening", x -> x.opening(3, 0));
        SHRUNK.refusesIndex("a place", x -> x.sideAt(4, 0));
        SHRUNK.refusesState("the trail", x -> x.goBack());
    }

    private static void whatAnUndoTookAway() {
        UNDONE.refusesIndex("a slip", x -> x.slip(0, 2));
        UNDONE.refusesIndex("detach", x -> x.detach(0));
        UNDONE.refusesIndex("a scan of the slip", x -> x.scanSlip(0, 0));
        UNDONE.refusesIndex("a scan", x -> x.removeScan(0));
        UNDONE.refusesIndex("a place", x -> x.showing(4));
        UNDONE.refusesState("the trail", x -> x.goBack());
    }
}
