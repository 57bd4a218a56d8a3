import java.util.ArrayDeque;
import java.util.ArrayList;
import java.util.Arrays;
import java.util.Collections;
import java.util.Comparator;
import java.util.Deque;
import java.util.HashSet;
import java.util.List;
import java.util.NoSuchElementException;
import java.util.Set;
import java.util.regex.Matcher;
import java.util.regex.Pattern;

/** The document written a second time, with the Java library and without regard to speed or room. */
final class PlainModel {
    private static final Pattern TOKEN = Pattern.compile("[a-z]+|[0-9]+|[^ ]", Pattern.DOTALL);
    private static final List<String> SIDES = List.of("recto", "verso");
    private static final List<String> STYLES = List.of("folio", "page", "roman", "none");

    /** A side of a leaf or of a slip, whose number the owner is. */
    private record Side(boolean isSlip, int owner, int number) {
    }

    private record Slip(int leaf, int side, int sides) {
    }

    private record Range(int from, int to, int style, int start) {
    }

    private record Scan(int kind, int first, int second) {
        List<Side> shown() {
            List<Side> all = new ArrayList<>();
            if (kind == 0) {
                all.add(new Side(false, first, second));
            } else if (kind == 2) {
                all.add(new Side(true, first, second));
            } else {
                if (first >= 0) {
                    all.add(new Side(false, first, 1));
                }
                if (second >= 0) {
                    all.add(new Side(false, second, 0));
                }
            }
            return all;
        }
    }

    private static final class World {
        List<Integer> quires = new ArrayList<>();
        Set<Integer> missing = new HashSet<>();
        List<Slip> slips = new ArrayList<>();
        List<Range> ranges = new ArrayList<>();
        List<Scan> scans = new ArrayList<>();
        int view = 0;
        List<Integer> trail = new ArrayList<>();

        World copy() {
            World other = new World();
            other.quires.addAll(quires);
            other.missing.addAll(missing);
            other.slips.addAll(slips);
            other.ranges.addAll(ranges);
            other.scans.addAll(scans);
            other.view = view;
            other.trail.addAll(trail);
            return other;
        }

        int leaves() {
            return quires.stream().mapToInt(n -> n).sum();
        }

        List<Integer> present() {
            List<Integer> all = new ArrayList<>();
            for (int leaf = 0; leaf < leaves(); leaf++) {
                if (!missing.contains(leaf)) {
                    all.add(leaf);
                }
            }
            return all;
        }

        List<Integer> slipsOn(int leaf, int side) {
            List<Integer> all = new ArrayList<>();
            for (int i = 0; i < slips.size(); i++) {
                if (slips.get(i).leaf == leaf && slips.get(i).side == side) {
                    all.add(i);
                }
            }
            return all;
        }

        List<Side> order() {
            List<Side> all = new ArrayList<>();
            for (int leaf : present()) {
                for (int side = 0; side < 2; side++) {
                    all.add(new Side(false, leaf, side));
                    for (int slip : slipsOn(leaf, side)) {
                        for (int i = 0; i < slips.get(slip).sides; i++) {
                            all.add(new Side(true, slip, i));
                        }
                    }
                }
            }
            return all;
        }

        Side base(Side side) {
            if (!side.isSlip) {
                return side;
            }
            Slip slip = slips.get(side.owner);
            return slip.leaf < 0 ? null : new Side(false, slip.leaf, slip.side);
        }

        String label(Side side) {
            if (side.isSlip) {
                Side base = base(side);
                char letter = "abcdefghijkl".charAt(slipsOn(base.owner, base.number).indexOf(side.owner));
                return label(base) + "*" + letter + (side.number == 1 ? "v" : "");
            }
            Range found = null;
            for (Range range : ranges) {
                if (range.from <= side.owner && side.owner <= range.to) {
                    found = range;
                }
            }
            if (found == null || found.style == 3) {
                return "";
            }
            int k = side.owner - found.from;
            if (found.style == 0) {
                return (found.start + k) + (side.number == 0 ? "r" : "v");
            }
            int page = found.start + 2 * k + side.number;
            return found.style == 1 ? Integer.toString(page) : roman(page);
        }

        static String roman(int number) {
            int[] values = {1000, 900, 500, 400, 100, 90, 50, 40, 10, 9, 5, 4, 1};
            String[] signs = {"m", "cm", "d", "cd", "c", "xc", "l", "xl", "x", "ix", "v", "iv", "i"};
            StringBuilder text = new StringBuilder();
            int rest = number;
            for (int i = 0; i < values.length; i++) {
                while (rest >= values[i]) {
                    text.append(signs[i]);
                    rest -= values[i];
                }
            }
            return text.toString();
        }

        int place(Scan scan) {
            List<Side> order = order();
            return scan.shown().stream().mapToInt(order::indexOf).filter(p -> p >= 0).min().orElse(-1);
        }

        int[] opening(int number) {
            List<Integer> present = present();
            int left = number > 0 ? present.get(number - 1) : -1;
            int right = number < present.size() ? present.get(number) : -1;
            return new int[] {left, right};
        }

        boolean lies(Side side, int opening) {
            Side base = base(side);
            int[] leaves = opening(opening);
            return base != null && base.owner == leaves[1 - base.number];
        }
    }

    private String input = "";
    private String formatted = "";
    private World world = new World();
    private Deque<World> history = new ArrayDeque<>();
    private World saved = null;

    PlainModel() {
        world.quires.add(2);
    }

    private static void index(boolean holds) {
        if (!holds) {
            throw new IndexOutOfBoundsException();
        }
    }

    private static void argument(boolean holds) {
        if (!holds) {
            throw new IllegalArgumentException();
        }
    }

    private static void state(boolean holds) {
        if (!holds) {
            throw new IllegalStateException();
        }
    }

    private static boolean in(int number, int size) {
        return 0 <= number && number < size;
    }

    private void change() {
        history.addLast(world.copy());
        if (history.size() > 8) {
            history.removeFirst();
        }
    }

    int append(int a, int b, int c, int d, int e) {
        StringBuilder more = new StringBuilder();
        for (int word : new int[] {a, b, c, d, e}) {
            for (int shift : new int[] {24, 16, 8, 0}) {
                char one = (char) (word >> shift & 0xff);
                if (one != 0) {
                    more.append(one);
                }
            }
        }
        state(input.length() + more.length() <= 600);
        input += more;
        return input.length();
    }

    int truncate(int length) {
        argument(0 <= length && length <= input.length());
        input = input.substring(0, length);
        return length;
    }

    private World draft;
    private List<int[]> spans;
    private int next;

    /** Where the reading stopped. */
    private static final class Stop extends RuntimeException {
        private static final long serialVersionUID = 1L;
    }

    private String peek() {
        return next < spans.size() ? input.substring(spans.get(next)[0], spans.get(next)[1]) : "";
    }

    private static void must(boolean holds) {
        if (!holds) {
            throw new Stop();
        }
    }

    private boolean atNumber() {
        return peek().matches("[0-9]+");
    }

    private int number() {
        return peek().matches("[0-9]{1,4}") ? Integer.parseInt(peek()) : -1;
    }

    private int oneOf(List<String> words) {
        int index = words.indexOf(peek());
        must(index >= 0);
        next++;
        return index;
    }

    private void readQuire() {
        must(draft.quires.size() < 8);
        next++;
        int leaves = number();
        must(List.of(2, 4, 6, 8, 10, 12).contains(leaves) && draft.leaves() + leaves <= 60);
        draft.quires.add(leaves);
        next++;
    }

    private void readMissing() {
        next++;
        int from = number();
        must(in(from, draft.leaves()) && draft.slips.stream().noneMatch(s -> s.leaf == from));
        next++;
        int to = from;
        if (atNumber()) {
            int last = number();
            must(in(last, draft.leaves()) && last >= from
                    && draft.slips.stream().noneMatch(s -> from <= s.leaf && s.leaf <= last));
            to = last;
            next++;
        }
        for (int leaf = from; leaf <= to; leaf++) {
            draft.missing.add(leaf);
        }
    }

    private void readSlip() {
        must(draft.slips.size() < 12);
        next++;
        int leaf = number();
        must(draft.present().contains(leaf));
        next++;
        int side = oneOf(SIDES);
        int sides = number();
        must(sides == 1 || sides == 2);
        draft.slips.add(new Slip(leaf, side, sides));
        next++;
    }

    private void readLabel() {
        must(draft.ranges.size() < 12);
        next++;
        int from = number();
        must(in(from, draft.leaves()));
        next++;
        int to = number();
        must(in(to, draft.leaves()) && from <= to);
        next++;
        int style = oneOf(STYLES);
        int start = number();
        must(1 <= start && start <= 999);
        draft.ranges.add(new Range(from, to, style, start));
        next++;
    }

    private void readText() {
        boolean more = true;
        while (more) {
            String word = peek();
            must(word.equals("quire") || !draft.quires.isEmpty());
            switch (word) {
                case "quire" -> readQuire();
                case "missing" -> readMissing();
                case "slip" -> readSlip();
                case "label" -> readLabel();
                default -> must(false);
            }
            more = peek().equals(";");
            if (more) {
                next++;
            }
        }
        must(next == spans.size());
    }

    int errorPosition() {
        draft = new World();
        spans = new ArrayList<>();
        next = 0;
        Matcher matcher = TOKEN.matcher(input);
        while (matcher.find()) {
            spans.add(new int[] {matcher.start(), matcher.end()});
        }
        try {
            readText();
        } catch (Stop stop) {
            return next < spans.size() ? spans.get(next)[0] : input.length();
        }
        return -1;
    }

    int load() {
        argument(errorPosition() == -1);
        world = draft;
        history.clear();
        saved = null;
        input = "";
        return world.leaves();
    }

    int lose(int leaf) {
        index(in(leaf, world.leaves()));
        state(!world.missing.contains(leaf) && world.slips.stream().noneMatch(s -> s.leaf == leaf));
        change();
        world.missing.add(leaf);
        world.view = 0;
        world.trail.clear();
        return world.present().size();
    }

    int find(int leaf) {
        index(in(leaf, world.leaves()));
        state(world.missing.contains(leaf));
        change();
        world.missing.remove(leaf);
        world.view = 0;
        world.trail.clear();
        return world.present().size();
    }

    int attach(int leaf, int side, int sides) {
        index(in(leaf, world.leaves()));
        argument(in(side, 2) && (sides == 1 || sides == 2));
        state(!world.missing.contains(leaf) && world.slips.size() < 12);
        change();
        world.slips.add(new Slip(leaf, side, sides));
        return world.slips.size() - 1;
    }

    private int attached() {
        return (int) world.slips.stream().filter(s -> s.leaf >= 0).count();
    }

    int detach(int slip) {
        index(in(slip, world.slips.size()));
        state(world.slips.get(slip).leaf >= 0);
        change();
        world.slips.set(slip, new Slip(-1, -1, world.slips.get(slip).sides));
        return attached();
    }

    int label(int from, int to, int style, int start) {
        index(in(from, world.leaves()) && in(to, world.leaves()));
        argument(from <= to && in(style, 4) && in(start - 1, 999));
        state(world.ranges.size() < 12);
        change();
        world.ranges.add(new Range(from, to, style, start));
        return world.ranges.size();
    }

    private int addScan(Scan scan) {
        state(world.scans.size() < 60);
        change();
        world.scans.add(scan);
        return world.scans.size() - 1;
    }

    int scanLeaf(int leaf, int side) {
        index(in(leaf, world.leaves()));
        argument(in(side, 2));
        state(!world.missing.contains(leaf));
        return addScan(new Scan(0, leaf, side));
    }

    int scanOpening(int opening) {
        index(in(opening, openingCount()));
        int[] leaves = world.opening(opening);
        state(leaves[0] >= 0 || leaves[1] >= 0);
        return addScan(new Scan(1, leaves[0], leaves[1]));
    }

    int scanSlip(int slip, int side) {
        index(in(slip, world.slips.size()) && in(side, world.slips.get(slip).sides));
        state(world.slips.get(slip).leaf >= 0);
        return addScan(new Scan(2, slip, side));
    }

    int removeScan(int scan) {
        index(in(scan, world.scans.size()));
        change();
        return world.scans.remove(scan).kind;
    }

    int moveScan(int scan, int to) {
        index(in(scan, world.scans.size()) && in(to, world.scans.size()));
        change();
        world.scans.add(to, world.scans.remove(scan));
        return inversions();
    }

    int sortScans() {
        change();
        List<Integer> numbers = new ArrayList<>();
        for (int i = 0; i < world.scans.size(); i++) {
            numbers.add(i);
        }
        List<Scan> before = new ArrayList<>(world.scans);
        numbers.sort(Comparator.comparingInt(i -> {
            int place = world.place(before.get(i));
            return place < 0 ? Integer.MAX_VALUE : place;
        }));
        int moved = 0;
        for (int i = 0; i < numbers.size(); i++) {
            world.scans.set(i, before.get(numbers.get(i)));
            moved += numbers.get(i) == i ? 0 : 1;
        }
        return moved;
    }

    private int leaveFor(int opening) {
        change();
        world.trail.add(world.view);
        if (world.trail.size() > 10) {
            world.trail.remove(0);
        }
        world.view = opening;
        return opening;
    }

    int turn(int by) {
        argument(by != 0);
        long target = (long) by + world.view;
        state(0 <= target && target < openingCount());
        return leaveFor((int) target);
    }

    int goTo(int place) {
        index(in(place, placeCount()));
        Side side = world.order().get(place);
        for (int opening = 0; opening < openingCount(); opening++) {
            if (world.lies(side, opening)) {
                return leaveFor(opening);
            }
        }
        throw new AssertionError("a side on no opening");
    }

    int goBack() {
        state(!world.trail.isEmpty());
        change();
        world.view = world.trail.remove(world.trail.size() - 1);
        return world.view;
    }

    int volume(int what) {
        argument(in(what, 6));
        return new int[] {world.quires.size(), world.leaves(), world.present().size(), world.slips.size(), attached(),
            world.ranges.size()}[what];
    }

    int leaf(int leaf, int what) {
        index(in(leaf, world.leaves()));
        argument(in(what, 6));
        int quire = 0;
        int index = leaf;
        while (index >= world.quires.get(quire)) {
            index -= world.quires.get(quire);
            quire++;
        }
        int conjugate = leaf - index + world.quires.get(quire) - 1 - index;
        return new int[] {world.missing.contains(leaf) ? 0 : 1, quire, index, conjugate,
            world.slipsOn(leaf, 0).size(), world.slipsOn(leaf, 1).size()}[what];
    }

    int slip(int slip, int what) {
        index(in(slip, world.slips.size()));
        argument(in(what, 3));
        Slip found = world.slips.get(slip);
        return new int[] {found.leaf, found.side, found.sides}[what];
    }

    private int format(String text) {
        formatted = text;
        return text.length();
    }

    int formatCollation() {
        List<String> parts = new ArrayList<>();
        int first = 0;
        for (int quire = 0; quire < world.quires.size(); quire++) {
            List<String> gone = new ArrayList<>();
            for (int i = 0; i < world.quires.get(quire); i++) {
                if (world.missing.contains(first + i)) {
                    gone.add(Integer.toString(i + 1));
                }
            }
            parts.add("ABCDEFGH".charAt(quire) + "" + world.quires.get(quire)
                    + (gone.isEmpty() ? "" : "(-" + String.join(",", gone) + ")"));
            first += world.quires.get(quire);
        }
        return format(String.join(" ", parts));
    }

    int formattedByte(int index) {
        index(in(index, formatted.length()));
        return formatted.charAt(index);
    }

    int placeCount() {
        return world.order().size();
    }

    int sideAt(int place, int what) {
        index(in(place, placeCount()));
        argument(in(what, 4));
        Side side = world.order().get(place);
        Side base = world.base(side);
        return new int[] {base.owner, base.number, side.isSlip ? side.owner : -1, side.isSlip ? side.number : -1}[what];
    }

    int placeOf(int leaf, int side) {
        index(in(leaf, world.leaves()));
        argument(in(side, 2));
        return world.order().indexOf(new Side(false, leaf, side));
    }

    int formatLabel(int place) {
        index(in(place, placeCount()));
        return format(world.label(world.order().get(place)));
    }

    int formatLeafLabel(int leaf, int side) {
        index(in(leaf, world.leaves()));
        argument(in(side, 2));
        return format(world.label(new Side(false, leaf, side)));
    }

    int findLabel(int from) {
        argument(0 <= from && from <= placeCount());
        for (int place = from; place < placeCount(); place++) {
            if (world.label(world.order().get(place)).equals(input)) {
                return place;
            }
        }
        return -1;
    }

    int sameLabels(int place) {
        index(in(place, placeCount()));
        String wanted = world.label(world.order().get(place));
        return (int) world.order().stream().filter(s -> world.label(s).equals(wanted)).count();
    }

    int openingCount() {
        return Math.max(1, world.present().size() + 1);
    }

    int opening(int opening, int what) {
        index(in(opening, openingCount()));
        argument(in(what, 5));
        int[] leaves = world.opening(opening);
        int gap = 0;
        for (int leaf : world.missing) {
            if (leaf > leaves[0] && (leaves[1] < 0 || leaf < leaves[1])) {
                gap++;
            }
        }
        int slips = 0;
        for (int i = 0; i < world.slips.size(); i++) {
            slips += world.lies(new Side(true, i, 0), opening) ? 1 : 0;
        }
        List<Side> order = world.order();
        int scans = (int) world.scans.stream().filter(
                scan -> scan.shown().stream().anyMatch(s -> order.contains(s) && world.lies(s, opening))).count();
        return new int[] {leaves[0], leaves[1], gap, slips, scans}[what];
    }

    int view() {
        return world.view;
    }

    int trailLength() {
        return world.trail.size();
    }

    int scanCount() {
        return world.scans.size();
    }

    int scan(int scan, int what) {
        index(in(scan, world.scans.size()));
        argument(in(what, 4));
        Scan found = world.scans.get(scan);
        return new int[] {found.kind, world.place(found), found.first, found.second}[what];
    }

    private int shown(Side side) {
        return (int) world.scans.stream().filter(scan -> scan.shown().contains(side)).count();
    }

    int showing(int place) {
        index(in(place, placeCount()));
        return shown(world.order().get(place));
    }

    int uncovered() {
        return (int) world.order().stream().filter(side -> shown(side) == 0).count();
    }

    int nextUncovered(int from) {
        argument(0 <= from && from <= placeCount());
        List<Side> order = world.order();
        for (int place = from; place < order.size(); place++) {
            if (shown(order.get(place)) == 0) {
                return place;
            }
        }
        return -1;
    }

    /** Word by word: lower scans, and higher ones that are not counted. */
    int needless() {
        List<Side> order = world.order();
        boolean[] counted = new boolean[world.scans.size()];
        int count = 0;
        for (int scan = counted.length - 1; scan >= 0; scan--) {
            boolean all = true;
            for (Side side : world.scans.get(scan).shown()) {
                if (order.contains(side)) {
                    boolean other = false;
                    for (int i = 0; i < counted.length; i++) {
                        other |= i != scan && (i < scan || !counted[i]) && world.scans.get(i).shown().contains(side);
                    }
                    all &= other;
                }
            }
            counted[scan] = all;
            count += all ? 1 : 0;
        }
        return count;
    }

    private int[] placed() {
        return world.scans.stream().mapToInt(scan -> world.place(scan)).filter(p -> p >= 0).toArray();
    }

    int inversions() {
        int[] places = placed();
        int count = 0;
        for (int i = 0; i < places.length; i++) {
            for (int j = i + 1; j < places.length; j++) {
                count += places[j] < places[i] ? 1 : 0;
            }
        }
        return count;
    }

    /** Piles: the tops rise, and their number is the length of a longest chain. */
    int movesToOrder() {
        int[] places = placed();
        List<Integer> tops = new ArrayList<>();
        for (int place : places) {
            int pile = 0;
            while (pile < tops.size() && tops.get(pile) <= place) {
                pile++;
            }
            if (pile == tops.size()) {
                tops.add(place);
            } else {
                tops.set(pile, place);
            }
        }
        return places.length - tops.size();
    }

    int longestRun() {
        int[] places = placed();
        int longest = 0;
        for (int from = 0; from < places.length; from++) {
            for (int to = from + 1; to <= places.length; to++) {
                int[] part = Arrays.copyOfRange(places, from, to);
                int[] sorted = part.clone();
                Arrays.sort(sorted);
                if (Arrays.equals(part, sorted)) {
                    longest = Math.max(longest, part.length);
                }
            }
        }
        return longest;
    }

    int firstMisplaced() {
        List<Integer> before = new ArrayList<>(List.of(-1));
        for (int scan = 0; scan < world.scans.size(); scan++) {
            int place = world.place(world.scans.get(scan));
            if (place >= 0 && place < Collections.max(before)) {
                return scan;
            }
            before.add(place);
        }
        throw new NoSuchElementException();
    }

    int undo() {
        state(!history.isEmpty());
        world = history.removeLast();
        return history.size();
    }

    int undoCount() {
        return history.size();
    }

    int save() {
        saved = world.copy();
        return world.scans.size();
    }

    int restore() {
        state(saved != null);
        world = saved.copy();
        history.clear();
        return world.scans.size();
    }
}
