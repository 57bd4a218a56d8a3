import java.util.Arrays;
import java.util.NoSuchElementException;

/**
 * An archive of page scans of a bound volume. The document numbers what it
 * promises; the classes inside hold the parts of which it speaks.
 */
public final class PageArchive {
    public static final int NONE = -1;

    private static final int MAX_QUIRES = 8;
    private static final int MIN_QUIRE_LEAVES = 2;
    private static final int MAX_QUIRE_LEAVES = 12;
    private static final int MAX_LEAVES = 60;
    private static final int MAX_SLIPS = 12;
    private static final int MAX_SLIP_SIDES = 2;
    private static final int MAX_RANGES = 12;
    private static final int MAX_START = 999;
    private static final int MAX_SCANS = 60;
    private static final int MAX_TRAIL = 10;
    private static final int MAX_UNDO = 8;
    private static final int MAX_INPUT = 600;
    private static final int MAX_PLACES = 2 * MAX_LEAVES + MAX_SLIP_SIDES * MAX_SLIPS;
    // A missing leaf takes at most 3 bytes of a collation, a quire 7 more.
    private static final int MAX_FORMATTED = 3 * MAX_LEAVES + 7 * MAX_QUIRES;
    private static final int MAX_LABEL = 32;

    private static final int RECTO = 0;
    private static final int VERSO = 1;

    private static final int FOLIO = 0;
    private static final int PAGE = 1;
    private static final int ROMAN = 2;
    private static final int UNLABELLED = 3;

    private static final int OF_LEAF = 0;
    private static final int OF_OPENING = 1;
    private static final int OF_SLIP = 2;

    private final SetupReader reader = new SetupReader();
    private final Text input = reader.text;
    private final Text formatted = new Text(MAX_FORMATTED);
    private final Text wantedLabel = new Text(MAX_LABEL);
    private final Text otherLabel = new Text(MAX_LABEL);
    private final State state = new State();
    private final Volume volume = state.volume;
    private final Labels labels = state.labels;
    private final Scans scans = state.scans;
    private final View view = state.view;
    private final Scans unsorted = new Scans();
    private final History history = new History();
    private final State saved = new State();
    private boolean hasSaved = false;
    private final ReadingOrder order = new ReadingOrder();
    private final ScanPlaces places = new ScanPlaces();

    public PageArchive() {
        volume.addQuire(2);
    }

    // ---- Input

    public int append(int a, int b, int c, int d, int e) throws IllegalStateException {
        int more = countBytes(a) + countBytes(b) + countBytes(c) + countBytes(d) + countBytes(e);
        if (input.size() + more > MAX_INPUT) {
            throw new IllegalStateException("the input buffer is full");
        }
        addBytes(a);
        addBytes(b);
        addBytes(c);
        addBytes(d);
        addBytes(e);
        return input.size();
    }

    public int truncate(int length) throws IllegalArgumentException {
        if (length < 0 || length > input.size()) {
            throw new IllegalArgumentException("no such length");
        }
        input.shortenTo(length);
        return length;
    }

    public int errorPosition() {
        return reader.firstError();
    }

    public int load() throws IllegalArgumentException {
        if (reader.firstError() != NONE) {
            throw new IllegalArgumentException("the setup text is not valid");
        }
        state.copyFrom(reader.draft);
        history.clear();
        hasSaved = false;
        input.shortenTo(0);
        return volume.leafCount();
    }

    private static int countBytes(int four) {
        int count = 0;
        for (int shift = 24; shift >= 0; shift -= 8) {
            if ((four >>> shift & 255) != 0) {
                count++;
            }
        }
        return count;
    }

    private void addBytes(int four) {
        for (int shift = 24; shift >= 0; shift -= 8) {
            int one = four >>> shift & 255;
            if (one != 0) {
                input.add(one);
            }
        }
    }

    // ---- Changes

    public int lose(int leaf) throws IndexOutOfBoundsException, IllegalStateException {
        requireLeaf(leaf);
        if (!volume.isPresent(leaf) || volume.hasSlips(leaf, leaf)) {
            throw new IllegalStateException("the leaf is missing or carries a slip");
        }
        history.keep(state);
        volume.setMissing(leaf, true);
        view.reset();
        return volume.presentCount();
    }

    public int find(int leaf) throws IndexOutOfBoundsException, IllegalStateException {
        requireLeaf(leaf);
        if (volume.isPresent(leaf)) {
            throw new IllegalStateException("the leaf is present");
        }
        history.keep(state);
        volume.setMissing(leaf, false);
        view.reset();
        return volume.presentCount();
    }

    public int attach(int leaf, int side, int sides)
            throws IndexOutOfBoundsException, IllegalArgumentException, IllegalStateException {
        requireLeaf(leaf);
        requireSide(side);
        if (!isSlipSize(sides)) {
            throw new IllegalArgumentException("a slip has one or two sides");
        }
        if (!volume.isPresent(leaf) || !volume.takesSlip()) {
            throw new IllegalStateException("the leaf is missing, or there are no slips left");
        }
        history.keep(state);
        volume.addSlip(leaf, side, sides);
        return volume.slipCount() - 1;
    }

    public int detach(int slip) throws IndexOutOfBoundsException, IllegalStateException {
        requireSlip(slip);
        requireAttached(slip);
        history.keep(state);
        volume.loosen(slip);
        return volume.attachedCount();
    }

    public int label(int from, int to, int style, int start)
            throws IndexOutOfBoundsException, IllegalArgumentException, IllegalStateException {
        requireLeaf(from);
        requireLeaf(to);
        if (to < from || style < FOLIO || style > UNLABELLED || !isStart(start)) {
            throw new IllegalArgumentException("no such label range");
        }
        if (!labels.takesRange()) {
            throw new IllegalStateException("there are no label ranges left");
        }
        history.keep(state);
        labels.add(from, to, style, start);
        return labels.size();
    }

    public int scanLeaf(int leaf, int side)
            throws IndexOutOfBoundsException, IllegalArgumentException, IllegalStateException {
        requireLeaf(leaf);
        requireSide(side);
        if (!volume.isPresent(leaf)) {
            throw new IllegalStateException("the leaf is missing");
        }
        return addScan(OF_LEAF, leaf, side);
    }

    public int scanOpening(int opening) throws IndexOutOfBoundsException, IllegalStateException {
        requireOpening(opening);
        int left = volume.leftOf(opening);
        int right = volume.rightOf(opening);
        if (left == NONE && right == NONE) {
            throw new IllegalStateException("the opening has no side");
        }
        return addScan(OF_OPENING, left, right);
    }

    public int scanSlip(int slip, int side) throws IndexOutOfBoundsException, IllegalStateException {
        requireSlip(slip);
        if (side < 0 || side >= volume.sidesOfSlip(slip)) {
            throw new IndexOutOfBoundsException("the slip has no such side");
        }
        requireAttached(slip);
        return addScan(OF_SLIP, slip, side);
    }

    private int addScan(int kind, int first, int second) {
        if (!scans.takesScan()) {
            throw new IllegalStateException("there are no scans left");
        }
        history.keep(state);
        scans.add(kind, first, second);
        return scans.size() - 1;
    }

    public int removeScan(int scan) throws IndexOutOfBoundsException {
        requireScan(scan);
        int kind = scans.kindOf(scan);
        history.keep(state);
        scans.dropAt(scan);
        return kind;
    }

    public int moveScan(int scan, int to) throws IndexOutOfBoundsException {
        requireScan(scan);
        requireScan(to);
        history.keep(state);
        scans.shift(scan, to);
        return inversions();
    }

    public int sortScans() {
        followScans();
        int moved = places.rankScans();
        history.keep(state);
        unsorted.copyFrom(scans);
        scans.arrange(unsorted, places.ranking);
        return moved;
    }

    public int turn(int by) throws IllegalArgumentException, IllegalStateException {
        if (by == 0) {
            throw new IllegalArgumentException("a turn by 0 openings");
        }
        long target = (long) view.current() + by;
        if (target < 0 || target >= volume.countOpenings()) {
            throw new IllegalStateException("there is no such opening");
        }
        history.keep(state);
        view.leaveFor((int) target);
        return view.current();
    }

    public int goTo(int place) throws IndexOutOfBoundsException {
        requirePlace(place);
        history.keep(state);
        view.leaveFor(openingWith(place));
        return view.current();
    }

    public int goBack() throws IllegalStateException {
        if (view.trailSize() == 0) {
            throw new IllegalStateException("the trail is empty");
        }
        history.keep(state);
        view.stepBack();
        return view.current();
    }

    // ---- Leaves and quires

    public int volume(int what) throws IllegalArgumentException {
        switch (what) {
            case 0: return volume.quireCount();
            case 1: return volume.leafCount();
            case 2: return volume.presentCount();
            case 3: return volume.slipCount();
            case 4: return volume.attachedCount();
            case 5: return labels.size();
            default: throw new IllegalArgumentException("no such number of the volume");
        }
    }

    public int leaf(int leaf, int what) throws IndexOutOfBoundsException, IllegalArgumentException {
        requireLeaf(leaf);
        switch (what) {
            case 0: return volume.isPresent(leaf) ? 1 : 0;
            case 1: return volume.quireOf(leaf);
            case 2: return volume.indexInQuire(leaf);
            case 3: return volume.conjugateOf(leaf);
            case 4: return volume.slipsOn(leaf, RECTO);
            case 5: return volume.slipsOn(leaf, VERSO);
            default: throw new IllegalArgumentException("no such number of a leaf");
        }
    }

    public int slip(int slip, int what) throws IndexOutOfBoundsException, IllegalArgumentException {
        requireSlip(slip);
        switch (what) {
            case 0: return volume.leafOfSlip(slip);
            case 1: return volume.sideOfSlip(slip);
            case 2: return volume.sidesOfSlip(slip);
            default: throw new IllegalArgumentException("no such number of a slip");
        }
    }

    public int formatCollation() {
        formatted.shortenTo(0);
        volume.writeCollation(formatted);
        return formatted.size();
    }

    public int formattedByte(int index) throws IndexOutOfBoundsException {
        if (index < 0 || index >= formatted.size()) {
            throw new IndexOutOfBoundsException("there is no such byte");
        }
        return formatted.byteAt(index);
    }

    // ---- Reading order and labels

    public int placeCount() {
        order.follow(volume);
        return order.size();
    }

    public int sideAt(int place, int what) throws IndexOutOfBoundsException, IllegalArgumentException {
        requirePlace(place);
        switch (what) {
            case 0: return order.leafAt(place);
            case 1: return order.leafSideAt(place);
            case 2: return order.slipAt(place);
            case 3: return order.slipSideAt(place);
            default: throw new IllegalArgumentException("no such number of a side");
        }
    }

    public int placeOf(int leaf, int side) throws IndexOutOfBoundsException, IllegalArgumentException {
        requireLeaf(leaf);
        requireSide(side);
        order.follow(volume);
        return order.placeOfLeaf(leaf, side);
    }

    public int formatLabel(int place) throws IndexOutOfBoundsException {
        requirePlace(place);
        writeLabelAt(place, formatted);
        return formatted.size();
    }

    public int formatLeafLabel(int leaf, int side) throws IndexOutOfBoundsException, IllegalArgumentException {
        requireLeaf(leaf);
        requireSide(side);
        formatted.shortenTo(0);
        labels.write(leaf, side, formatted);
        return formatted.size();
    }

    public int findLabel(int from) throws IllegalArgumentException {
        requireStartPlace(from);
        for (int place = from; place < order.size(); place++) {
            writeLabelAt(place, otherLabel);
            if (otherLabel.hasSameBytes(input)) {
                return place;
            }
        }
        return NONE;
    }

    public int sameLabels(int place) throws IndexOutOfBoundsException {
        requirePlace(place);
        writeLabelAt(place, wantedLabel);
        int count = 0;
        for (int other = 0; other < order.size(); other++) {
            writeLabelAt(other, otherLabel);
            if (otherLabel.hasSameBytes(wantedLabel)) {
                count++;
            }
        }
        return count;
    }

    /** The reading order must have been followed before. */
    private void writeLabelAt(int place, Text text) {
        text.shortenTo(0);
        labels.write(order.leafAt(place), order.leafSideAt(place), text);
        int slip = order.slipAt(place);
        if (slip != NONE) {
            text.add('*');
            text.add('a' + volume.rankOfSlip(slip));
            if (order.slipSideAt(place) == VERSO) {
                text.add('v');
            }
        }
    }

    // ---- Openings and view

    public int openingCount() {
        return volume.countOpenings();
    }

    public int opening(int opening, int what) throws IndexOutOfBoundsException, IllegalArgumentException {
        requireOpening(opening);
        switch (what) {
            case 0: return volume.leftOf(opening);
            case 1: return volume.rightOf(opening);
            case 2: return volume.gapOf(opening);
            case 3: return volume.slipsOn(volume.leftOf(opening), VERSO)
                    + volume.slipsOn(volume.rightOf(opening), RECTO);
            case 4: return countScansOn(opening);
            default: throw new IllegalArgumentException("no such number of an opening");
        }
    }

    public int view() {
        return view.current();
    }

    public int trailLength() {
        return view.trailSize();
    }

    private int countScansOn(int opening) {
        followScans();
        int count = 0;
        for (int scan = 0; scan < scans.size(); scan++) {
            if (openingWith(places.firstOf(scan)) == opening || openingWith(places.secondOf(scan)) == opening) {
                count++;
            }
        }
        return count;
    }

    /** The reading order must have been followed before; NONE lies on no opening. */
    private int openingWith(int place) {
        if (place == NONE) {
            return NONE;
        }
        return volume.presentBefore(order.leafAt(place)) + order.leafSideAt(place);
    }

    // ---- Scans

    public int scanCount() {
        return scans.size();
    }

    public int scan(int scan, int what) throws IndexOutOfBoundsException, IllegalArgumentException {
        requireScan(scan);
        switch (what) {
            case 0: return scans.kindOf(scan);
            case 1:
                followScans();
                return places.firstOf(scan);
            case 2: return scans.firstOf(scan);
            case 3: return scans.secondOf(scan);
            default: throw new IllegalArgumentException("no such number of a scan");
        }
    }

    public int showing(int place) throws IndexOutOfBoundsException {
        requirePlace(place);
        followScans();
        return places.countShowing(place);
    }

    public int uncovered() {
        followScans();
        int count = 0;
        for (int place = 0; place < order.size(); place++) {
            if (places.countShowing(place) == 0) {
                count++;
            }
        }
        return count;
    }

    public int nextUncovered(int from) throws IllegalArgumentException {
        requireStartPlace(from);
        followScans();
        for (int place = from; place < order.size(); place++) {
            if (places.countShowing(place) == 0) {
                return place;
            }
        }
        return NONE;
    }

    public int needless() {
        followScans();
        return places.countNeedless();
    }

    // ---- Orders

    public int inversions() {
        followScans();
        return places.countInversions();
    }

    public int movesToOrder() {
        followScans();
        return places.countMoves();
    }

    public int longestRun() {
        followScans();
        return places.longestRising();
    }

    public int firstMisplaced() throws NoSuchElementException {
        followScans();
        int scan = places.firstFalling();
        if (scan == NONE) {
            throw new NoSuchElementException("there is no inversion");
        }
        return scan;
    }

    private void followScans() {
        order.follow(volume);
        places.follow(scans, order);
    }

    // ---- History

    public int undo() throws IllegalStateException {
        if (history.size() == 0) {
            throw new IllegalStateException("there is nothing to undo");
        }
        history.takeBack(state);
        return history.size();
    }

    public int undoCount() {
        return history.size();
    }

    public int save() {
        saved.copyFrom(state);
        hasSaved = true;
        return scans.size();
    }

    public int restore() throws IllegalStateException {
        if (!hasSaved) {
            throw new IllegalStateException("there is no copy");
        }
        state.copyFrom(saved);
        history.clear();
        return scans.size();
    }

    // ---- Tests of arguments

    private void requireLeaf(int leaf) {
        if (!volume.hasLeaf(leaf)) {
            throw new IndexOutOfBoundsException("there is no such leaf");
        }
    }

    private static void requireSide(int side) {
        if (side != RECTO && side != VERSO) {
            throw new IllegalArgumentException("a leaf has the sides 0 and 1");
        }
    }

    private void requireSlip(int slip) {
        if (slip < 0 || slip >= volume.slipCount()) {
            throw new IndexOutOfBoundsException("there is no such slip");
        }
    }

    private void requireAttached(int slip) {
        if (volume.leafOfSlip(slip) == NONE) {
            throw new IllegalStateException("the slip is detached");
        }
    }

    private void requireScan(int scan) {
        if (scan < 0 || scan >= scans.size()) {
            throw new IndexOutOfBoundsException("there is no such scan");
        }
    }

    private void requireOpening(int opening) {
        if (opening < 0 || opening >= volume.countOpenings()) {
            throw new IndexOutOfBoundsException("there is no such opening");
        }
    }

    /** Follows the reading order, so that its caller can ask for the side at the place. */
    private void requirePlace(int place) {
        order.follow(volume);
        if (place < 0 || place >= order.size()) {
            throw new IndexOutOfBoundsException("there is no such place");
        }
    }

    /** A search may start behind the last place too; follows the reading order. */
    private void requireStartPlace(int from) {
        order.follow(volume);
        if (from < 0 || from > order.size()) {
            throw new IllegalArgumentException("no search can start there");
        }
    }

    private static boolean isSlipSize(int sides) {
        return sides >= 1 && sides <= MAX_SLIP_SIDES;
    }

    private static boolean isStart(int start) {
        return start >= 1 && start <= MAX_START;
    }

    /** A row of numbers that tests every index: outside of it stands 0, and nothing is put there. */
    static final class Row {
        private final int[] numbers;

        Row(int length) {
            numbers = new int[length > 0 ? length : 0];
        }

        int at(int index) {
            return index >= 0 && index < numbers.length ? numbers[index] : 0;
        }

        void put(int index, int number) {
            if (index >= 0 && index < numbers.length) {
                numbers[index] = number;
            }
        }

        void fill(int number) {
            Arrays.fill(numbers, number);
        }

        void copyFrom(Row other) {
            int shared = Math.min(numbers.length, other.numbers.length);
            System.arraycopy(other.numbers, 0, numbers, 0, shared);
        }
    }

    /** A text of bytes with a fixed room; what would go beyond it is left out. */
    static final class Text {
        private final int[] bytes;
        private int size = 0;

        Text(int room) {
            bytes = new int[room > 0 ? room : 0];
        }

        int size() {
            return size;
        }

        int byteAt(int index) {
            return index >= 0 && index < size && index < bytes.length ? bytes[index] : NONE;
        }

        void add(int one) {
            if (size >= 0 && size < bytes.length) {
                bytes[size] = one;
                size++;
            }
        }

        void shortenTo(int length) {
            if (length >= 0 && length < size) {
                size = length;
            }
        }

        boolean hasSameBytes(Text other) {
            if (size != other.size) {
                return false;
            }
            for (int i = 0; i < size; i++) {
                if (byteAt(i) != other.byteAt(i)) {
                    return false;
                }
            }
            return true;
        }

        /** For numbers from 1 to 9999: all that is ever written lies there. */
        void addDecimal(int number) {
            for (int unit = 1000; unit > 0; unit /= 10) {
                if (number >= unit) {
                    add('0' + number / unit % 10);
                }
            }
        }

        void addRoman(int number) {
            for (int i = 0; i < number / 1000; i++) {
                add('m');
            }
            addRomanDigit(number / 100 % 10, 'c', 'd', 'm');
            addRomanDigit(number / 10 % 10, 'x', 'l', 'c');
            addRomanDigit(number % 10, 'i', 'v', 'x');
        }

        private void addRomanDigit(int digit, char one, char five, char ten) {
            if (digit == 9) {
                add(one);
                add(ten);
            } else if (digit == 4) {
                add(one);
                add(five);
            } else {
                if (digit >= 5) {
                    add(five);
                }
                for (int i = 0; i < digit % 5; i++) {
                    add(one);
                }
            }
        }
    }

    /** What is bound together: quires, leaves and slips. */
    static final class Volume {
        private final Row quireLeaves = new Row(MAX_QUIRES);
        private final Row missing = new Row(MAX_LEAVES);
        private final Row slipLeaf = new Row(MAX_SLIPS);
        private final Row slipSide = new Row(MAX_SLIPS);
        private final Row slipSides = new Row(MAX_SLIPS);
        private int quireCount = 0;
        private int leafCount = 0;
        private int slipCount = 0;

        void clear() {
            quireCount = 0;
            leafCount = 0;
            slipCount = 0;
        }

        void copyFrom(Volume other) {
            quireLeaves.copyFrom(other.quireLeaves);
            missing.copyFrom(other.missing);
            slipLeaf.copyFrom(other.slipLeaf);
            slipSide.copyFrom(other.slipSide);
            slipSides.copyFrom(other.slipSides);
            quireCount = other.quireCount;
            leafCount = other.leafCount;
            slipCount = other.slipCount;
        }

        int quireCount() {
            return quireCount;
        }

        boolean takesQuire() {
            return quireCount < MAX_QUIRES;
        }

        boolean takesLeaves(int leaves) {
            return leaves >= MIN_QUIRE_LEAVES && leaves <= MAX_QUIRE_LEAVES
                    && leaves % 2 == 0 && leafCount + leaves <= MAX_LEAVES;
        }

        void addQuire(int leaves) {
            if (takesQuire() && takesLeaves(leaves)) {
                for (int i = 0; i < leaves; i++) {
                    missing.put(leafCount + i, 0);
                }
                quireLeaves.put(quireCount, leaves);
                quireCount++;
                leafCount += leaves;
            }
        }

        int quireOf(int leaf) {
            int leaves = 0;
            for (int quire = 0; quire < quireCount; quire++) {
                leaves += quireLeaves.at(quire);
                if (leaf < leaves) {
                    return quire;
                }
            }
            return NONE;
        }

        private int firstLeafOf(int quire) {
            int leaves = 0;
            for (int before = 0; before < quire; before++) {
                leaves += quireLeaves.at(before);
            }
            return leaves;
        }

        int indexInQuire(int leaf) {
            return leaf - firstLeafOf(quireOf(leaf));
        }

        int conjugateOf(int leaf) {
            int quire = quireOf(leaf);
            return firstLeafOf(quire) + quireLeaves.at(quire) - 1 - indexInQuire(leaf);
        }

        int leafCount() {
            return leafCount;
        }

        boolean hasLeaf(int leaf) {
            return leaf >= 0 && leaf < leafCount;
        }

        boolean isPresent(int leaf) {
            return hasLeaf(leaf) && missing.at(leaf) == 0;
        }

        void setMissing(int leaf, boolean isMissing) {
            missing.put(leaf, isMissing ? 1 : 0);
        }

        int presentCount() {
            return presentBefore(leafCount);
        }

        int presentBefore(int end) {
            int count = 0;
            for (int leaf = 0; leaf < end; leaf++) {
                if (isPresent(leaf)) {
                    count++;
                }
            }
            return count;
        }

        private int presentLeaf(int number) {
            int seen = 0;
            for (int leaf = 0; leaf < leafCount; leaf++) {
                if (isPresent(leaf)) {
                    if (seen == number) {
                        return leaf;
                    }
                    seen++;
                }
            }
            return NONE;
        }

        int countOpenings() {
            return presentCount() + 1;
        }

        int leftOf(int opening) {
            return presentLeaf(opening - 1);
        }

        int rightOf(int opening) {
            return presentLeaf(opening);
        }

        int gapOf(int opening) {
            int left = leftOf(opening);
            int right = rightOf(opening);
            int start = left == NONE ? 0 : left + 1;
            int end = right == NONE ? leafCount : right;
            return end - start;
        }

        int slipCount() {
            return slipCount;
        }

        boolean takesSlip() {
            return slipCount < MAX_SLIPS;
        }

        void addSlip(int leaf, int side, int sides) {
            if (takesSlip()) {
                slipLeaf.put(slipCount, leaf);
                slipSide.put(slipCount, side);
                slipSides.put(slipCount, sides);
                slipCount++;
            }
        }

        void loosen(int slip) {
            slipLeaf.put(slip, NONE);
            slipSide.put(slip, NONE);
        }

        int leafOfSlip(int slip) {
            return slipLeaf.at(slip);
        }

        int sideOfSlip(int slip) {
            return slipSide.at(slip);
        }

        int sidesOfSlip(int slip) {
            return slipSides.at(slip);
        }

        boolean isSlipOn(int slip, int leaf, int side) {
            return leaf != NONE && slipLeaf.at(slip) == leaf && slipSide.at(slip) == side;
        }

        private int slipsOnBefore(int leaf, int side, int end) {
            int count = 0;
            for (int slip = 0; slip < end; slip++) {
                if (isSlipOn(slip, leaf, side)) {
                    count++;
                }
            }
            return count;
        }

        int slipsOn(int leaf, int side) {
            return slipsOnBefore(leaf, side, slipCount);
        }

        int rankOfSlip(int slip) {
            return slipsOnBefore(slipLeaf.at(slip), slipSide.at(slip), slip);
        }

        boolean hasSlips(int from, int to) {
            for (int slip = 0; slip < slipCount; slip++) {
                int leaf = slipLeaf.at(slip);
                if (leaf != NONE && leaf >= from && leaf <= to) {
                    return true;
                }
            }
            return false;
        }

        int attachedCount() {
            int count = 0;
            for (int slip = 0; slip < slipCount; slip++) {
                if (slipLeaf.at(slip) != NONE) {
                    count++;
                }
            }
            return count;
        }

        void writeCollation(Text text) {
            for (int quire = 0; quire < quireCount; quire++) {
                if (quire > 0) {
                    text.add(' ');
                }
                text.add('A' + quire);
                text.addDecimal(quireLeaves.at(quire));
                writeMissing(quire, text);
            }
        }

        private void writeMissing(int quire, Text text) {
            int first = firstLeafOf(quire);
            int written = 0;
            for (int index = 0; index < quireLeaves.at(quire); index++) {
                if (!isPresent(first + index)) {
                    if (written == 0) {
                        text.add('(');
                        text.add('-');
                    } else {
                        text.add(',');
                    }
                    text.addDecimal(index + 1);
                    written++;
                }
            }
            if (written > 0) {
                text.add(')');
            }
        }
    }

    /** The label ranges, the latest one last. */
    static final class Labels {
        private final Row firstLeaf = new Row(MAX_RANGES);
        private final Row lastLeaf = new Row(MAX_RANGES);
        private final Row styles = new Row(MAX_RANGES);
        private final Row starts = new Row(MAX_RANGES);
        private int size = 0;

        void clear() {
            size = 0;
        }

        void copyFrom(Labels other) {
            firstLeaf.copyFrom(other.firstLeaf);
            lastLeaf.copyFrom(other.lastLeaf);
            styles.copyFrom(other.styles);
            starts.copyFrom(other.starts);
            size = other.size;
        }

        int size() {
            return size;
        }

        boolean takesRange() {
            return size < MAX_RANGES;
        }

        void add(int from, int to, int style, int start) {
            if (takesRange()) {
                firstLeaf.put(size, from);
                lastLeaf.put(size, to);
                styles.put(size, style);
                starts.put(size, start);
                size++;
            }
        }

        private int rangeOf(int leaf) {
            for (int range = size - 1; range >= 0; range--) {
                if (firstLeaf.at(range) <= leaf && leaf <= lastLeaf.at(range)) {
                    return range;
                }
            }
            return NONE;
        }

        void write(int leaf, int side, Text text) {
            int range = rangeOf(leaf);
            if (range == NONE) {
                return;
            }
            int before = leaf - firstLeaf.at(range);
            int start = starts.at(range);
            int page = start + 2 * before + side;
            int style = styles.at(range);
            if (style == FOLIO) {
                text.addDecimal(start + before);
                text.add(side == RECTO ? 'r' : 'v');
            } else if (style == PAGE) {
                text.addDecimal(page);
            } else if (style == ROMAN) {
                text.addRoman(page);
            }
        }
    }

    /**
     * The scans in their order. By its kind a scan holds a leaf and its side,
     * the leaves on the left and on the right, or a slip and its side.
     */
    static final class Scans {
        private final Row kinds = new Row(MAX_SCANS);
        private final Row firsts = new Row(MAX_SCANS);
        private final Row seconds = new Row(MAX_SCANS);
        private int size = 0;

        void clear() {
            size = 0;
        }

        void copyFrom(Scans other) {
            kinds.copyFrom(other.kinds);
            firsts.copyFrom(other.firsts);
            seconds.copyFrom(other.seconds);
            size = other.size;
        }

        int size() {
            return size;
        }

        boolean takesScan() {
            return size < MAX_SCANS;
        }

        int kindOf(int scan) {
            return kinds.at(scan);
        }

        int firstOf(int scan) {
            return firsts.at(scan);
        }

        int secondOf(int scan) {
            return seconds.at(scan);
        }

        private void put(int scan, int kind, int first, int second) {
            kinds.put(scan, kind);
            firsts.put(scan, first);
            seconds.put(scan, second);
        }

        private void putFrom(Scans source, int from, int to) {
            put(to, source.kindOf(from), source.firstOf(from), source.secondOf(from));
        }

        void add(int kind, int first, int second) {
            if (takesScan()) {
                put(size, kind, first, second);
                size++;
            }
        }

        void shift(int scan, int to) {
            int kind = kindOf(scan);
            int first = firstOf(scan);
            int second = secondOf(scan);
            for (int i = scan; i < to; i++) {
                putFrom(this, i + 1, i);
            }
            for (int i = scan; i > to; i--) {
                putFrom(this, i - 1, i);
            }
            put(to, kind, first, second);
        }

        void dropAt(int scan) {
            if (scan >= 0 && scan < size) {
                shift(scan, size - 1);
                size--;
            }
        }

        void arrange(Scans before, Row ranking) {
            for (int scan = 0; scan < size; scan++) {
                putFrom(before, ranking.at(scan), scan);
            }
        }
    }

    /** The opening that is looked at, and the trail of those that were left. */
    static final class View {
        private final Row trail = new Row(MAX_TRAIL);
        private int trailSize = 0;
        private int current = 0;

        void reset() {
            trailSize = 0;
            current = 0;
        }

        void copyFrom(View other) {
            trail.copyFrom(other.trail);
            trailSize = other.trailSize;
            current = other.current;
        }

        int current() {
            return current;
        }

        int trailSize() {
            return trailSize;
        }

        void leaveFor(int next) {
            if (trailSize == MAX_TRAIL) {
                forgetOldest();
            }
            trail.put(trailSize, current);
            trailSize++;
            current = next;
        }

        private void forgetOldest() {
            for (int i = 1; i < trailSize; i++) {
                trail.put(i - 1, trail.at(i));
            }
            trailSize--;
        }

        void stepBack() {
            if (trailSize > 0) {
                trailSize--;
                current = trail.at(trailSize);
            }
        }
    }

    /** All that a change may touch and undo() brings back. */
    static final class State {
        final Volume volume = new Volume();
        final Labels labels = new Labels();
        final Scans scans = new Scans();
        final View view = new View();

        void clear() {
            volume.clear();
            labels.clear();
            scans.clear();
            view.reset();
        }

        void copyFrom(State other) {
            volume.copyFrom(other.volume);
            labels.copyFrom(other.labels);
            scans.copyFrom(other.scans);
            view.copyFrom(other.view);
        }
    }

    /** The states before the latest changes, in a ring that is used again. */
    static final class History {
        private final State[] ring = new State[MAX_UNDO];
        private int next = 0;
        private int size = 0;

        History() {
            for (int i = 0; i < ring.length; i++) {
                ring[i] = new State();
            }
        }

        int size() {
            return size;
        }

        void clear() {
            size = 0;
        }

        private State slotAt(int index) {
            return index >= 0 && index < ring.length ? ring[index] : null;
        }

        void keep(State before) {
            State slot = slotAt(next);
            if (slot != null) {
                slot.copyFrom(before);
                next = next + 1 < MAX_UNDO ? next + 1 : 0;
                size = Math.min(size + 1, MAX_UNDO);
            }
        }

        void takeBack(State target) {
            int latest = next > 0 ? next - 1 : MAX_UNDO - 1;
            State slot = slotAt(latest);
            if (slot != null && size > 0) {
                target.copyFrom(slot);
                next = latest;
                size--;
            }
        }
    }

    /** The sides of present leaves and attached slips by their places. */
    static final class ReadingOrder {
        private final Row leaves = new Row(MAX_PLACES);
        private final Row leafSides = new Row(MAX_PLACES);
        private final Row slips = new Row(MAX_PLACES);
        private final Row slipSides = new Row(MAX_PLACES);
        private final Row leafPlaces = new Row(2 * MAX_LEAVES);
        private final Row slipPlaces = new Row(MAX_SLIP_SIDES * MAX_SLIPS);
        private int size = 0;

        void follow(Volume volume) {
            size = 0;
            leafPlaces.fill(NONE);
            slipPlaces.fill(NONE);
            for (int leaf = 0; leaf < volume.leafCount(); leaf++) {
                if (volume.isPresent(leaf)) {
                    addSide(volume, leaf, RECTO);
                    addSide(volume, leaf, VERSO);
                }
            }
        }

        private void addSide(Volume volume, int leaf, int side) {
            leafPlaces.put(2 * leaf + side, size);
            add(leaf, side, NONE, NONE);
            for (int slip = 0; slip < volume.slipCount(); slip++) {
                if (volume.isSlipOn(slip, leaf, side)) {
                    for (int slipSide = 0; slipSide < volume.sidesOfSlip(slip); slipSide++) {
                        slipPlaces.put(MAX_SLIP_SIDES * slip + slipSide, size);
                        add(leaf, side, slip, slipSide);
                    }
                }
            }
        }

        private void add(int leaf, int leafSide, int slip, int slipSide) {
            leaves.put(size, leaf);
            leafSides.put(size, leafSide);
            slips.put(size, slip);
            slipSides.put(size, slipSide);
            size++;
        }

        int size() {
            return size;
        }

        int leafAt(int place) {
            return leaves.at(place);
        }

        int leafSideAt(int place) {
            return leafSides.at(place);
        }

        int slipAt(int place) {
            return slips.at(place);
        }

        int slipSideAt(int place) {
            return slipSides.at(place);
        }

        int placeOfLeaf(int leaf, int side) {
            return leaf == NONE ? NONE : leafPlaces.at(2 * leaf + side);
        }

        int placeOfSlip(int slip, int side) {
            return slipPlaces.at(MAX_SLIP_SIDES * slip + side);
        }
    }

    /** The places that the scans show now, and how they follow one another. */
    static final class ScanPlaces {
        private final Row firsts = new Row(MAX_SCANS);
        private final Row seconds = new Row(MAX_SCANS);
        private final Row covers = new Row(MAX_PLACES);
        private final Row chains = new Row(MAX_SCANS);
        final Row ranking = new Row(MAX_SCANS);
        private int size = 0;

        void follow(Scans scans, ReadingOrder order) {
            size = scans.size();
            for (int scan = 0; scan < size; scan++) {
                int first = scans.firstOf(scan);
                int second = scans.secondOf(scan);
                int kind = scans.kindOf(scan);
                if (kind == OF_OPENING) {
                    putPlaces(scan, order.placeOfLeaf(first, VERSO), order.placeOfLeaf(second, RECTO));
                } else if (kind == OF_SLIP) {
                    putPlaces(scan, order.placeOfSlip(first, second), NONE);
                } else {
                    putPlaces(scan, order.placeOfLeaf(first, second), NONE);
                }
            }
        }

        /** The left side of an opening is read before the right one, so the first is the least. */
        private void putPlaces(int scan, int left, int right) {
            firsts.put(scan, left == NONE ? right : left);
            seconds.put(scan, left == NONE ? NONE : right);
        }

        /** The place of the scan; NONE if it has none. */
        int firstOf(int scan) {
            return firsts.at(scan);
        }

        int secondOf(int scan) {
            return seconds.at(scan);
        }

        private boolean isPlaced(int scan) {
            return firsts.at(scan) != NONE;
        }

        int countShowing(int place) {
            int count = 0;
            for (int scan = 0; scan < size; scan++) {
                if (firsts.at(scan) == place || seconds.at(scan) == place) {
                    count++;
                }
            }
            return count;
        }

        int countNeedless() {
            covers.fill(0);
            for (int scan = 0; scan < size; scan++) {
                addCover(scan, 1);
            }
            int count = 0;
            for (int scan = size - 1; scan >= 0; scan--) {
                if (isCoveredTwice(firsts.at(scan)) && isCoveredTwice(seconds.at(scan))) {
                    addCover(scan, -1);
                    count++;
                }
            }
            return count;
        }

        private void addCover(int scan, int more) {
            int first = firsts.at(scan);
            int second = seconds.at(scan);
            covers.put(first, covers.at(first) + more);
            covers.put(second, covers.at(second) + more);
        }

        /** A side without a place needs no cover, so it counts as covered. */
        private boolean isCoveredTwice(int place) {
            return place == NONE || covers.at(place) > 1;
        }

        private boolean isInversion(int earlier, int later) {
            return isPlaced(earlier) && isPlaced(later) && firsts.at(later) < firsts.at(earlier);
        }

        int countInversions() {
            int count = 0;
            for (int later = 1; later < size; later++) {
                for (int earlier = 0; earlier < later; earlier++) {
                    if (isInversion(earlier, later)) {
                        count++;
                    }
                }
            }
            return count;
        }

        int firstFalling() {
            for (int later = 1; later < size; later++) {
                for (int earlier = 0; earlier < later; earlier++) {
                    if (isInversion(earlier, later)) {
                        return later;
                    }
                }
            }
            return NONE;
        }

        /** What is not in a longest chain without an inversion must be taken out. */
        int countMoves() {
            int placed = 0;
            int longest = 0;
            for (int scan = 0; scan < size; scan++) {
                if (isPlaced(scan)) {
                    int chain = 1 + longestChainBefore(scan);
                    chains.put(scan, chain);
                    longest = Math.max(longest, chain);
                    placed++;
                }
            }
            return placed - longest;
        }

        private int longestChainBefore(int scan) {
            int longest = 0;
            for (int earlier = 0; earlier < scan; earlier++) {
                if (isPlaced(earlier) && !isInversion(earlier, scan)) {
                    longest = Math.max(longest, chains.at(earlier));
                }
            }
            return longest;
        }

        int longestRising() {
            int longest = 0;
            int run = 0;
            int before = NONE;
            for (int scan = 0; scan < size; scan++) {
                if (isPlaced(scan)) {
                    run = firsts.at(scan) < before ? 1 : run + 1;
                    before = firsts.at(scan);
                    longest = Math.max(longest, run);
                }
            }
            return longest;
        }

        /** Puts the scans' numbers in sorted order into the ranking; answers how many scans it moves. */
        int rankScans() {
            for (int scan = 0; scan < size; scan++) {
                int rank = scan;
                while (rank > 0 && sortKey(ranking.at(rank - 1)) > sortKey(scan)) {
                    ranking.put(rank, ranking.at(rank - 1));
                    rank--;
                }
                ranking.put(rank, scan);
            }
            int moved = 0;
            for (int scan = 0; scan < size; scan++) {
                if (ranking.at(scan) != scan) {
                    moved++;
                }
            }
            return moved;
        }

        private int sortKey(int scan) {
            return isPlaced(scan) ? firsts.at(scan) : MAX_PLACES;
        }
    }

    /** The input buffer, read as a setup text, token by token, into a draft. */
    static final class SetupReader {
        private static final int END = 0;
        private static final int WORD = 1;
        private static final int NUMBER = 2;
        private static final int SIGN = 3;
        private static final int MAX_DIGITS = 4;

        final State draft = new State();
        final Text text = new Text(MAX_INPUT);
        private int kind = END;
        private int start = 0;
        private int end = 0;
        private int value = NONE;

        /** The readers stop at the token that they refuse, so its start is the error position. */
        int firstError() {
            draft.clear();
            end = 0;
            nextToken();
            boolean accepted = readStatement();
            for (int i = 0; i < text.size() && accepted && isSemicolon(); i++) {
                nextToken();
                accepted = readStatement();
            }
            return accepted && kind == END ? NONE : start;
        }

        private boolean readStatement() {
            if (isWord("quire")) {
                return readQuire();
            }
            if (draft.volume.quireCount() == 0) {
                return false;
            }
            if (isWord("missing")) {
                return readMissing();
            }
            if (isWord("slip")) {
                return readSlip();
            }
            return isWord("label") && readLabel();
        }

        private boolean readQuire() {
            if (!draft.volume.takesQuire()) {
                return false;
            }
            nextToken();
            if (!draft.volume.takesLeaves(value)) {
                return false;
            }
            draft.volume.addQuire(value);
            nextToken();
            return true;
        }

        private boolean readMissing() {
            nextToken();
            int from = value;
            if (!draft.volume.hasLeaf(from) || draft.volume.hasSlips(from, from)) {
                return false;
            }
            nextToken();
            int to = from;
            if (kind == NUMBER) {
                to = value;
                if (!draft.volume.hasLeaf(to) || to < from || draft.volume.hasSlips(from, to)) {
                    return false;
                }
                nextToken();
            }
            for (int leaf = from; leaf <= to; leaf++) {
                draft.volume.setMissing(leaf, true);
            }
            return true;
        }

        private boolean readSlip() {
            if (!draft.volume.takesSlip()) {
                return false;
            }
            nextToken();
            int leaf = value;
            if (!draft.volume.isPresent(leaf)) {
                return false;
            }
            nextToken();
            int side = sideNamed();
            if (side == NONE) {
                return false;
            }
            nextToken();
            if (!isSlipSize(value)) {
                return false;
            }
            draft.volume.addSlip(leaf, side, value);
            nextToken();
            return true;
        }

        private boolean readLabel() {
            if (!draft.labels.takesRange()) {
                return false;
            }
            nextToken();
            int from = value;
            if (!draft.volume.hasLeaf(from)) {
                return false;
            }
            nextToken();
            int to = value;
            if (!draft.volume.hasLeaf(to) || to < from) {
                return false;
            }
            nextToken();
            int style = styleNamed();
            if (style == NONE) {
                return false;
            }
            nextToken();
            if (!isStart(value)) {
                return false;
            }
            draft.labels.add(from, to, style, value);
            nextToken();
            return true;
        }

        private int sideNamed() {
            if (isWord("recto")) {
                return RECTO;
            }
            return isWord("verso") ? VERSO : NONE;
        }

        private int styleNamed() {
            if (isWord("folio")) {
                return FOLIO;
            }
            if (isWord("page")) {
                return PAGE;
            }
            if (isWord("roman")) {
                return ROMAN;
            }
            return isWord("none") ? UNLABELLED : NONE;
        }

        private void nextToken() {
            start = end;
            while (start < text.size() && text.byteAt(start) == ' ') {
                start++;
            }
            kind = kindOf(text.byteAt(start));
            end = start;
            if (kind == SIGN) {
                end++;
            }
            while (end < text.size() && kind != SIGN && kindOf(text.byteAt(end)) == kind) {
                end++;
            }
            value = kind == NUMBER ? numberRead() : NONE;
        }

        private static int kindOf(int one) {
            if (one == NONE) {
                return END;
            }
            if (one >= 'a' && one <= 'z') {
                return WORD;
            }
            return one >= '0' && one <= '9' ? NUMBER : SIGN;
        }

        /** NONE, which no range contains, for a number of too many digits. */
        private int numberRead() {
            if (end - start > MAX_DIGITS) {
                return NONE;
            }
            int number = 0;
            for (int i = start; i < end; i++) {
                number = 10 * number + text.byteAt(i) - '0';
            }
            return number;
        }

        private boolean isSemicolon() {
            return kind == SIGN && text.byteAt(start) == ';';
        }

        private boolean isWord(String word) {
            if (kind != WORD || end - start != word.length()) {
                return false;
            }
            for (int i = 0; i < word.length(); i++) {
                if (text.byteAt(start + i) != word.charAt(i)) {
                    return false;
                }
            }
            return true;
        }
    }
}
