/**
 * Boxes made of lists: leaves, rules, glue, kerns and boxes within boxes, packed along a line or
 * one below the other, and laid out as marks on the page. The document DOC.md numbers what is
 * promised.
 */
public final class BoxPacker {
    public static final int RUNNING = -1073741824;
    public static final int NONE = -1;

    private static final int GREATEST_SIZE = 1073741823;
    private static final int GREATEST_TAG = 65535;
    private static final int ORDERS = 4;
    private static final int MOST_ITEMS = 100;
    private static final int MOST_BOXES = 100;
    private static final int DEEPEST = 10;
    private static final int MOST_IN_ALL = 1000000;
    private static final int MOST_LAID_OUT = 20000;
    private static final int MOST_MARKS = 1000;

    private static final int NATURAL = 0;
    private static final int TO_SIZE = 1;
    private static final int BY_SIZE = 2;

    private final Item[] list = new Item[MOST_ITEMS];
    private int listed = 0;
    private final Box[] made = new Box[MOST_BOXES];
    private int boxesMade = 0;
    private final Marks marks = new Marks();

    public BoxPacker() {
    }

    public int leaf(int tag, int width, int height, int depth)
            throws IllegalArgumentException, UnsupportedOperationException {
        if (tag < 0 || tag > GREATEST_TAG) {
            throw new IllegalArgumentException("the tag is not 0 .. 65535");
        }
        if (!isSize(width) || !isSize(height) || !isSize(depth)) {
            throw new IllegalArgumentException("the width, height or depth is no size");
        }
        return append(new Solid(tag, width, height, depth, null, 0));
    }

    public int rule(int width, int height, int depth)
            throws IllegalArgumentException, UnsupportedOperationException {
        if (!isSizeOrRunning(width) || !isSizeOrRunning(height) || !isSizeOrRunning(depth)) {
            throw new IllegalArgumentException("the width, height or depth is neither a size nor RUNNING");
        }
        return append(new Solid(NONE, width, height, depth, null, 0));
    }

    public int glue(int width, int stretch, int order, int shrink, int shrinkOrder)
            throws IllegalArgumentException, UnsupportedOperationException {
        if (!isSize(width)) {
            throw new IllegalArgumentException("the width is no size");
        }
        if (!isSize(stretch) || stretch < 0 || !isSize(shrink) || shrink < 0) {
            throw new IllegalArgumentException("the stretch or shrink is no size or below 0");
        }
        if (!isOrder(order) || !isOrder(shrinkOrder)) {
            throw new IllegalArgumentException("an order is not 0 .. 3");
        }
        return append(new Space(width, stretch, order, shrink, shrinkOrder));
    }

    public int kern(int width) throws IllegalArgumentException, UnsupportedOperationException {
        if (!isSize(width)) {
            throw new IllegalArgumentException("the width is no size");
        }
        return append(new Space(width, 0, 0, 0, 0));
    }

    public int box(int box, int shift)
            throws IndexOutOfBoundsException, IllegalArgumentException, UnsupportedOperationException {
        Box inner = boxNumbered(box);
        if (!isSize(shift)) {
            throw new IllegalArgumentException("the shift is no size");
        }
        return append(new Solid(NONE, inner.width, inner.height, inner.depth, inner, shift));
    }

    public boolean keep(int n) {
        if (n < 0 || n > listed) {
            return false;
        }
        listed = n;
        return true;
    }

    public int items() {
        return listed;
    }

    public int pack(boolean below, int how, int size, int greatest)
            throws IllegalArgumentException, UnsupportedOperationException, IllegalStateException {
        if (how < NATURAL || how > BY_SIZE) {
            throw new IllegalArgumentException("how is not 0 .. 2");
        }
        if (!isSize(size) || !isSize(greatest)) {
            throw new IllegalArgumentException("the size or the greatest depth is no size");
        }
        if (boxesMade >= MOST_BOXES) {
            throw new UnsupportedOperationException("there are 100 boxes");
        }
        Box box = new Box(below, list, listed);
        if (box.deep > DEEPEST) {
            throw new UnsupportedOperationException("the box would be more than 10 deep");
        }
        box.fit(how, size, greatest);
        int number = boxesMade;
        made[number] = box;
        boxesMade++;
        listed = 0;
        return number;
    }

    public int boxes() {
        return boxesMade;
    }

    public int of(int box, int what) throws IndexOutOfBoundsException {
        Box asked = boxNumbered(box);
        switch (what) {
            case 0: return asked.width;
            case 1: return asked.height;
            case 2: return asked.depth;
            case 3: return asked.excess;
            case 4: return asked.order;
            case 5: return asked.total;
            case 6: return asked.badness();
            case 7: return asked.overfull;
            case 8: return asked.deep;
            case 9: return asked.content.length;
            case 10: return asked.inAll;
            default: throw new IndexOutOfBoundsException("what is not 0 .. 10");
        }
    }

    public int place(int box, int i) throws IndexOutOfBoundsException {
        Box asked = boxNumbered(box);
        if (i < 0 || i >= asked.places.length) {
            throw new IndexOutOfBoundsException("there is no such item");
        }
        return asked.places[i];
    }

    public int lay(int box, int x, int y) throws IndexOutOfBoundsException, IllegalArgumentException {
        Box outermost = boxNumbered(box);
        if (!isSize(x) || !isSize(y)) {
            throw new IllegalArgumentException("x or y is no size");
        }
        marks.clear();
        if (outermost.inAll > MOST_LAID_OUT || !layOut(outermost, x, y)) {
            marks.clear();
            return NONE;
        }
        return marks.count;
    }

    public long mark(int i, int what) throws IndexOutOfBoundsException {
        if (i < 0 || i >= marks.count) {
            throw new IndexOutOfBoundsException("there is no such mark");
        }
        if (what < 0 || what >= Marks.NUMBERS) {
            throw new IndexOutOfBoundsException("what is not 0 .. 5");
        }
        return marks.row[i * Marks.NUMBERS + what];
    }

    private int append(Item item) {
        if (listed >= MOST_ITEMS) {
            throw new UnsupportedOperationException("there are 100 items");
        }
        int number = listed;
        list[number] = item;
        listed++;
        return number;
    }

    private Box boxNumbered(int number) {
        if (number < 0 || number >= boxesMade) {
            throw new IndexOutOfBoundsException("there is no such box");
        }
        return made[number];
    }

    // Goes no deeper than boxes lie within boxes, and pack refuses more than DEEPEST of them.
    // False as soon as there are more marks than can be told.
    private boolean layOut(Box box, long x, long y) {
        for (int i = 0; i < box.content.length; i++) {
            if (box.content[i] instanceof Solid solid && !layOutItem(box, solid, box.places[i], x, y)) {
                return false;
            }
        }
        return true;
    }

    // Coordinates are longs: ten boxes within one another can lead outside the ints.
    private boolean layOutItem(Box box, Solid solid, int place, long x, long y) {
        long itemX = box.below ? x + solid.shift : x + place;
        long itemY = box.below ? y - box.height + place + known(solid.height) : y + solid.shift;
        if (solid.inner != null) {
            return layOut(solid.inner, itemX, itemY);
        }
        int width = known(solid.width, box.below ? box.width : 0);
        int height = known(solid.height, box.below ? 0 : box.height);
        int depth = known(solid.depth, box.below ? 0 : box.depth);
        boolean isLeaf = solid.tag != NONE;
        if (isLeaf || (width > 0 && height + depth > 0)) {
            return marks.add(solid.tag, itemX, itemY, width, height, depth);
        }
        return true;
    }

    private static boolean isSize(long n) {
        return n >= -GREATEST_SIZE && n <= GREATEST_SIZE;
    }

    private static boolean isSizeOrRunning(int n) {
        return n == RUNNING || isSize(n);
    }

    private static boolean isOrder(int n) {
        return n >= 0 && n < ORDERS;
    }

    private static int known(int size, int whenRunning) {
        return size == RUNNING ? whenRunning : size;
    }

    private static int known(int size) {
        return known(size, 0);
    }

    private static int sum(long a, long b) {
        long sum = a + b;
        if (!isSize(sum)) {
            throw new IllegalStateException("a sum of sizes is no size");
        }
        return (int) sum;
    }

    // Twice the product of two sizes still is a long.
    private static int share(long part, long excess, int total) {
        if (total == 0) {
            return 0;
        }
        long product = part * excess;
        long rounded = (2 * Math.abs(product) + total) / (2L * total);
        return (int) (product < 0 ? -rounded : rounded);
    }

    private abstract static class Item {
    }

    /** An item with a height and a depth: a leaf, a rule (its tag is NONE) or a box within a box. */
    private static final class Solid extends Item {
        private final int tag;
        private final int width;
        private final int height;
        private final int depth;
        private final Box inner;
        private final int shift;

        private Solid(int tag, int width, int height, int depth, Box inner, int shift) {
            this.tag = tag;
            this.width = width;
            this.height = height;
            this.depth = depth;
            this.inner = inner;
            this.shift = shift;
        }
    }

    /** An item with a size along the length alone: glue, or a kern, which is glue that never gives. */
    private static final class Space extends Item {
        private final int width;
        private final int stretch;
        private final int stretchOrder;
        private final int shrink;
        private final int shrinkOrder;

        private Space(int width, int stretch, int stretchOrder, int shrink, int shrinkOrder) {
            this.width = width;
            this.stretch = stretch;
            this.stretchOrder = stretchOrder;
            this.shrink = shrink;
            this.shrinkOrder = shrinkOrder;
        }

        private int give(boolean shrinking) {
            return shrinking ? shrink : stretch;
        }

        private int giveOrder(boolean shrinking) {
            return shrinking ? shrinkOrder : stretchOrder;
        }
    }

    /** A packed box. It is made unmeasured; fit gives it its sizes or refuses. */
    private static final class Box {
        private static final int OVERFULL_BADNESS = 1000000;
        private static final int AWFUL_BADNESS = 10000;

        private final boolean below;
        private final Item[] content;
        private final int[] places;
        private final int deep;
        private final int inAll;
        private int width = 0;
        private int height = 0;
        private int depth = 0;
        private int excess = 0;
        private int order = 0;
        private int total = 0;
        private int overfull = 0;

        private Box(boolean below, Item[] list, int count) {
            this.below = below;
            content = new Item[count];
            places = new int[count];
            int deepest = 1;
            int all = count;
            for (int i = 0; i < count; i++) {
                content[i] = list[i];
                if (list[i] instanceof Solid solid && solid.inner != null) {
                    deepest = Math.max(deepest, solid.inner.deep + 1);
                    all = Math.min(MOST_IN_ALL, all + solid.inner.inAll);
                }
            }
            deep = deepest;
            inAll = all;
        }

        private void fit(int how, int size, int greatest) {
            if (below) {
                measureBelow(greatest);
            } else {
                measureAlong();
            }
            int[] stretches = gives(false);
            int[] shrinks = gives(true);
            fillUp(how, size);
            if (excess > 0) {
                findTotal(stretches);
            } else if (excess < 0) {
                findTotal(shrinks);
            }
            if (excess < 0 && order == 0 && total < -excess) {
                overfull = -excess - total;
            }
            addShares();
        }

        private void measureAlong() {
            for (int i = 0; i < content.length; i++) {
                places[i] = width;
                if (content[i] instanceof Solid solid) {
                    width = sum(width, known(solid.width));
                    height = Math.max(height, sum(known(solid.height), -solid.shift));
                    depth = Math.max(depth, sum(known(solid.depth), solid.shift));
                } else if (content[i] instanceof Space space) {
                    width = sum(width, space.width);
                }
            }
        }

        private void measureBelow(int greatest) {
            for (int i = 0; i < content.length; i++) {
                if (content[i] instanceof Solid solid) {
                    height = sum(height, depth);
                    places[i] = height;
                    height = sum(height, known(solid.height));
                    depth = known(solid.depth);
                    width = Math.max(width, sum(known(solid.width), solid.shift));
                } else if (content[i] instanceof Space space) {
                    places[i] = height;
                    height = sum(sum(height, depth), space.width);
                    depth = 0;
                }
            }
            if (depth > greatest) {
                height = sum(height, (long) depth - greatest);
                depth = greatest;
            }
        }

        private int[] gives(boolean shrinking) {
            int[] sums = new int[ORDERS];
            for (int i = 0; i < content.length; i++) {
                if (content[i] instanceof Space space) {
                    int itsOrder = space.giveOrder(shrinking);
                    sums[itsOrder] = sum(sums[itsOrder], space.give(shrinking));
                }
            }
            return sums;
        }

        private void fillUp(int how, int size) {
            int length = below ? height : width;
            if (how == TO_SIZE) {
                excess = sum(size, -length);
            } else if (how == BY_SIZE) {
                excess = size;
            }
            int filled = sum(length, excess);
            if (below) {
                height = filled;
            } else {
                width = filled;
            }
        }

        private void findTotal(int[] sums) {
            for (int i = 0; i < sums.length; i++) {
                if (sums[i] != 0) {
                    order = i;
                    total = sums[i];
                }
            }
        }

        // An overfull box gives all the shrink it has and no more.
        private void addShares() {
            boolean shrinking = excess < 0;
            int given = overfull > 0 ? -total : excess;
            int before = 0;
            for (int i = 0; i < content.length; i++) {
                places[i] += share(before, given, total);
                if (content[i] instanceof Space space && space.giveOrder(shrinking) == order) {
                    before += space.give(shrinking);
                }
            }
        }

        private int badness() {
            if (overfull > 0) {
                return OVERFULL_BADNESS;
            }
            if (excess == 0 || order > 0) {
                return 0;
            }
            if (total == 0) {
                return AWFUL_BADNESS;
            }
            int ratio = badnessRatio(Math.abs(excess), total);
            // 1290 is the last ratio whose cube still is an int.
            return ratio > 1290 ? AWFUL_BADNESS : (ratio * ratio * ratio + 131072) / 262144;
        }

        // About 297 * excess / total, by the document's steps, which stay within the ints.
        private static int badnessRatio(int missing, int available) {
            if (missing <= 7230584) {
                return 297 * missing / available;
            }
            return available >= 1663497 ? missing / (available / 297) : missing;
        }
    }

    /** The marks of the last layout, six numbers each, in one row that every layout uses again. */
    private static final class Marks {
        private static final int NUMBERS = 6;

        private final long[] row = new long[MOST_MARKS * NUMBERS];
        private int count = 0;

        private void clear() {
            count = 0;
        }

        private boolean add(int tag, long x, long y, int width, int height, int depth) {
            if (count >= MOST_MARKS) {
                return false;
            }
            int start = count * NUMBERS;
            row[start] = tag;
            row[start + 1] = x;
            row[start + 2] = y;
            row[start + 3] = width;
            row[start + 4] = height;
            row[start + 5] = depth;
            count++;
            return true;
        }
    }
}
