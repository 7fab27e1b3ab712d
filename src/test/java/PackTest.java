/** Promises 9 to 11: packing, how many boxes there are, and what is told of a box. */
public final class PackTest {
    private static final int RUNNING = BoxPacker.RUNNING;
    private static final int MAX = 1073741823;
    private static final int OVERFULL = 1000000;
    private static final Check CHECK = new Check();

    public static void main(String[] args) {
        along();
        below();
        greatestDepth();
        excess();
        orders();
        overfull();
        badness();
        deepAndInAll();
        manyInAll();
        wrongArguments();
        tooManyBoxes();
        tooDeep();
        sumsThatAreNoSizes();
        sumsThatAreJustSizes();
        CHECK.finish();
    }

    private static void sizes(String what, BoxPacker p, int box, int width, int height, int depth) {
        CHECK.same(what + ", width", p.of(box, 0), width);
        CHECK.same(what + ", height", p.of(box, 1), height);
        CHECK.same(what + ", depth", p.of(box, 2), depth);
    }

    private static void along() {
        BoxPacker p = new BoxPacker();
        CHECK.same("empty list, its box", p.pack(false, 0, 0, 0), 0);
        sizes("empty list", p, 0, 0, 0, 0);
        p.leaf(1, 10, -7, -8);
        p.rule(RUNNING, -1, RUNNING);
        CHECK.same("negative sizes, their box", p.pack(false, 0, 0, 0), 1);
        sizes("negative heights and depths", p, 1, 10, 0, 0);
        p.leaf(1, 10, 5, 2);
        p.kern(-3);
        p.glue(100, 1, 0, 1, 0);
        p.rule(20, RUNNING, 9);
        p.rule(RUNNING, 8, RUNNING);
        p.box(1, 0);
        CHECK.same("mixed, its box", p.pack(false, 0, 0, 0), 2);
        sizes("mixed", p, 2, 137, 8, 9);
        CHECK.same("how many boxes", p.boxes(), 3);
        CHECK.same("the list is empty", p.items(), 0);
        p.box(2, -4);
        p.pack(false, 0, 0, 0);
        sizes("raised", p, 3, 137, 12, 5);
        p.box(2, 10);
        p.pack(false, 0, 0, -MAX);
        sizes("lowered; along there is no greatest depth", p, 4, 137, 0, 19);
    }

    private static void below() {
        BoxPacker p = new BoxPacker();
        p.leaf(1, 10, 5, 2);
        p.leaf(1, 12, 6, 3);
        p.pack(true, 0, 0, MAX);
        sizes("two leaves", p, 0, 12, 13, 3);
        p.leaf(1, 10, 5, 2);
        p.kern(4);
        p.pack(true, 0, 0, MAX);
        sizes("a leaf and a kern", p, 1, 10, 11, 0);
        p.glue(50, 0, 0, 0, 0);
        p.rule(RUNNING, RUNNING, RUNNING);
        p.leaf(2, -5, 1, -2);
        p.rule(3, 7, RUNNING);
        p.pack(true, 0, 0, MAX);
        sizes("running rules", p, 2, 3, 56, 0);
        p.box(0, 9);
        p.box(1, -30);
        p.rule(-8, 1, 6);
        p.pack(true, 0, 0, MAX);
        sizes("boxes with shifts", p, 3, 21, 28, 6);
        p.leaf(1, -10, 0, 0);
        p.box(0, -13);
        p.kern(5000);
        p.pack(true, 0, 0, MAX);
        sizes("no width is below 0, and glue and kerns have none", p, 4, 0, 5016, 0);
    }

    private static void greatestDepth() {
        BoxPacker p = new BoxPacker();
        p.leaf(1, 0, 5, 7);
        p.pack(true, 0, 0, 7);
        sizes("as deep as may be", p, 0, 0, 5, 7);
        p.leaf(1, 0, 5, 7);
        p.pack(true, 0, 0, 6);
        sizes("1 too deep", p, 1, 0, 6, 6);
        p.leaf(1, 0, 5, 7);
        p.pack(true, 0, 0, -4);
        sizes("below 0", p, 2, 0, 16, -4);
        p.leaf(1, 0, 5, -7);
        p.pack(true, 0, 0, -4);
        sizes("a depth below 0", p, 3, 0, 5, -7);
        p.leaf(1, 0, 5, 7);
        p.pack(true, 1, 20, 3);
        sizes("before the excess", p, 4, 0, 20, 3);
        CHECK.same("excess once too deep", p.of(4, 3), 11);
        p.leaf(1, 0, -MAX, MAX);
        p.pack(true, 0, 0, -MAX);
        sizes("the farthest", p, 5, 0, MAX, -MAX);
    }

    private static void excess() {
        BoxPacker p = new BoxPacker();
        p.kern(30);
        p.pack(false, 0, 77, 0);
        sizes("natural, whatever the size", p, 0, 30, 0, 0);
        CHECK.same("natural, excess", p.of(0, 3), 0);
        p.kern(30);
        p.pack(false, 1, 77, 0);
        sizes("to 77", p, 1, 77, 0, 0);
        CHECK.same("to 77, excess", p.of(1, 3), 47);
        p.kern(30);
        p.pack(false, 2, 77, 0);
        sizes("by 77", p, 2, 107, 0, 0);
        CHECK.same("by 77, excess", p.of(2, 3), 77);
        p.kern(30);
        p.pack(true, 1, -77, 0);
        sizes("below, to -77", p, 3, 0, -77, 0);
        CHECK.same("below, to -77, excess", p.of(3, 3), -107);
        p.kern(30);
        p.pack(true, 2, -77, 0);
        sizes("below, by -77", p, 4, 0, -47, 0);
        CHECK.same("below, by -77, excess", p.of(4, 3), -77);
    }

    private static void addGlues(BoxPacker p) {
        p.glue(0, 4, 0, 40, 3);
        p.glue(0, 5, 1, 50, 0);
        p.glue(0, 6, 1, 60, 0);
        p.glue(0, 0, 2, 70, 3);
    }

    private static void order(String what, BoxPacker p, int box, int order, int total) {
        CHECK.same(what + ", order", p.of(box, 4), order);
        CHECK.same(what + ", total", p.of(box, 5), total);
    }

    private static void orders() {
        BoxPacker p = new BoxPacker();
        addGlues(p);
        p.pack(false, 2, 9, 0);
        order("stretched: an order without stretch is passed over", p, 0, 1, 11);
        addGlues(p);
        p.pack(true, 2, -9, 0);
        order("shrunk", p, 1, 3, 110);
        addGlues(p);
        p.pack(false, 2, 0, 0);
        order("by 0", p, 2, 0, 0);
        p.glue(0, 0, 3, 4, 2);
        p.pack(false, 2, 9, 0);
        order("no stretch", p, 3, 0, 0);
        p.glue(0, 4, 2, 0, 3);
        p.pack(false, 2, -9, 0);
        order("no shrink", p, 4, 0, 0);
        CHECK.same("no shrink, overfull", p.of(4, 7), 9);
        p.glue(0, 4, 0, 5, 0);
        p.glue(0, 4, 0, 5, 0);
        p.pack(false, 2, 9, 0);
        order("of order 0", p, 5, 0, 8);
    }

    private static void overfull() {
        BoxPacker p = new BoxPacker();
        p.glue(0, 0, 0, 5, 0);
        p.pack(false, 2, -5, 0);
        CHECK.same("just full", p.of(0, 7), 0);
        CHECK.same("just full, badness", p.of(0, 6), 100);
        p.glue(0, 0, 0, 5, 0);
        p.pack(false, 2, -6, 0);
        CHECK.same("overfull by 1", p.of(1, 7), 1);
        CHECK.same("overfull, badness", p.of(1, 6), OVERFULL);
        CHECK.same("overfull, excess as asked", p.of(1, 3), -6);
        CHECK.same("overfull, total", p.of(1, 5), 5);
        p.glue(0, 0, 0, 5, 1);
        p.pack(false, 2, -6, 0);
        CHECK.same("never overfull with order 1", p.of(2, 7), 0);
        CHECK.same("order 1, badness", p.of(2, 6), 0);
        p.glue(0, 5, 0, 0, 0);
        p.pack(false, 2, 6, 0);
        CHECK.same("never overfull when stretched", p.of(3, 7), 0);
        p.kern(MAX);
        p.pack(true, 2, -MAX, 0);
        CHECK.same("overfull by the most", p.of(4, 7), MAX);
    }

    private static int badnessOf(int stretch, int excess) {
        BoxPacker p = new BoxPacker();
        p.glue(0, stretch, 0, stretch, 0);
        p.pack(false, 2, excess, 0);
        return p.of(0, 6);
    }

    private static void badness() {
        CHECK.same("no excess", badnessOf(100, 0), 0);
        CHECK.same("nothing to stretch", badnessOf(0, 1), 10000);
        CHECK.same("nothing to shrink", badnessOf(0, -1), OVERFULL);
        CHECK.same("a tenth", badnessOf(100, 10), 0);
        CHECK.same("a half", badnessOf(100, 50), 12);
        CHECK.same("a half shrunk", badnessOf(100, -50), 12);
        CHECK.same("all of it", badnessOf(100, 100), 100);
        CHECK.same("twice", badnessOf(100, 200), 800);
        CHECK.same("r 1290", badnessOf(297, 1290), 8189);
        CHECK.same("r 1291", badnessOf(297, 1291), 10000);
        CHECK.same("t 7230584, r 1290", badnessOf(1663427, 7230584), 8189);
        CHECK.same("t 7230584, r 1291", badnessOf(1663426, 7230584), 10000);
        CHECK.same("t 7230584, s below 1663497", badnessOf(1663496, 7230584), 8189);
        CHECK.same("t 7230585, s below 1663497", badnessOf(1663496, 7230585), 10000);
        CHECK.same("t 7230585, s 1663497", badnessOf(1663497, 7230585), 8189);
        CHECK.same("t 7230890, s 1663497", badnessOf(1663497, 7230890), 8189);
        CHECK.same("t 7230891, s 1663497", badnessOf(1663497, 7230891), 10000);
        CHECK.same("t great, s small", badnessOf(1, MAX), 10000);
        CHECK.same("t and s great", badnessOf(1000000000, 1000000000), 100);
        CHECK.same("t and s the greatest, shrunk", badnessOf(MAX, -MAX), 100);
        // 15000281 / 297 rounded down is 50505, a 297th of this excess; 297 * t / s would be 296.
        CHECK.same("s / 297 is rounded down first", badnessOf(15000281, 14999985), 100);
        BoxPacker p = new BoxPacker();
        p.glue(0, 1, 1, 1, 2);
        p.pack(false, 2, 500, 0);
        CHECK.same("order 1 stretched", p.of(0, 6), 0);
    }

    private static void deepAndInAll() {
        BoxPacker p = new BoxPacker();
        p.pack(false, 0, 0, 0);
        CHECK.same("empty, deep", p.of(0, 8), 1);
        CHECK.same("empty, items", p.of(0, 9), 0);
        CHECK.same("empty, in all", p.of(0, 10), 0);
        p.kern(1);
        p.glue(1, 0, 0, 0, 0);
        p.rule(1, 1, 1);
        p.pack(false, 0, 0, 0);
        CHECK.same("no boxes, deep", p.of(1, 8), 1);
        CHECK.same("no boxes, in all", p.of(1, 10), 3);
        p.box(1, 0);
        p.leaf(1, 1, 1, 1);
        p.box(1, 0);
        p.pack(true, 0, 0, 0);
        CHECK.same("two boxes, deep", p.of(2, 8), 2);
        CHECK.same("two boxes, items", p.of(2, 9), 3);
        CHECK.same("two boxes, in all", p.of(2, 10), 9);
        p.box(2, 0);
        p.box(0, 0);
        p.pack(false, 0, 0, 0);
        CHECK.same("the deepest first, deep", p.of(3, 8), 3);
        CHECK.same("the deepest first, in all", p.of(3, 10), 11);
        CHECK.refusedIndex("of, what -1", () -> p.of(0, -1));
        CHECK.refusedIndex("of, what 11", () -> p.of(0, 11));
        CHECK.refusedIndex("of, box -1", () -> p.of(-1, 0));
        CHECK.refusedIndex("of, box 4 of 4", () -> p.of(4, 0));
        CHECK.refusedIndex("of, greatest int", () -> p.of(Integer.MAX_VALUE, Integer.MAX_VALUE));
        CHECK.refusedIndex("of, least int", () -> p.of(Integer.MIN_VALUE, Integer.MIN_VALUE));
    }

    private static void addBoxes(BoxPacker p, int box, int times) {
        for (int i = 0; i < times; i++) {
            p.box(box, 0);
        }
    }

    private static void manyInAll() {
        BoxPacker p = new BoxPacker();
        for (int i = 0; i < 99; i++) {
            p.kern(0);
        }
        p.pack(false, 0, 0, 0);
        addBoxes(p, 0, 100);
        p.pack(false, 0, 0, 0);
        CHECK.same("in all, a hundred of 99", p.of(1, 10), 10000);
        addBoxes(p, 1, 99);
        p.pack(false, 0, 0, 0);
        CHECK.same("in all, 99 of 10000", p.of(2, 10), 990099);
        p.box(2, 0);
        addBoxes(p, 0, 98);
        p.pack(false, 0, 0, 0);
        CHECK.same("in all, nearly a million", p.of(3, 10), 999900);
        p.box(3, 0);
        for (int i = 0; i < 99; i++) {
            p.kern(0);
        }
        p.pack(false, 0, 0, 0);
        CHECK.same("in all, just a million", p.of(4, 10), 1000000);
        addBoxes(p, 4, 2);
        p.pack(false, 0, 0, 0);
        CHECK.same("in all, more", p.of(5, 10), 1000000);
    }

    private static void wrongArguments() {
        BoxPacker p = new BoxPacker();
        p.kern(5);
        CHECK.refusedArgument("how -1", () -> p.pack(false, -1, 0, 0));
        CHECK.refusedArgument("how 3", () -> p.pack(true, 3, 0, 0));
        for (int n : new int[] {RUNNING, MAX + 1, Integer.MIN_VALUE, Integer.MAX_VALUE}) {
            CHECK.refusedArgument("natural, size " + n, () -> p.pack(false, 0, n, 0));
            CHECK.refusedArgument("to, size " + n, () -> p.pack(false, 1, n, 0));
            CHECK.refusedArgument("by, size " + n, () -> p.pack(true, 2, n, 0));
            CHECK.refusedArgument("along, greatest " + n, () -> p.pack(false, 0, 0, n));
            CHECK.refusedArgument("below, greatest " + n, () -> p.pack(true, 0, 0, n));
        }
        CHECK.same("boxes after refusals", p.boxes(), 0);
        CHECK.same("items after refusals", p.items(), 1);
    }

    private static void tooManyBoxes() {
        BoxPacker p = new BoxPacker();
        for (int i = 0; i < 100; i++) {
            CHECK.same("box " + i, p.pack(false, 0, 0, 0), i);
        }
        CHECK.same("a hundred boxes", p.boxes(), 100);
        p.kern(MAX);
        p.kern(MAX);
        CHECK.refusedAsTooMuch("the 101st box", () -> p.pack(false, 0, 0, 0));
        CHECK.refusedArgument("the 101st box, how 3", () -> p.pack(false, 3, 0, 0));
        CHECK.same("boxes after refusals", p.boxes(), 100);
        CHECK.same("items after refusals", p.items(), 2);
        CHECK.same("the last one", p.of(99, 8), 1);
    }

    private static void tooDeep() {
        BoxPacker p = new BoxPacker();
        p.pack(false, 0, 0, 0);
        for (int deep = 2; deep <= 10; deep++) {
            p.box(deep - 2, 0);
            p.pack(deep % 2 == 0, 0, 0, 0);
            CHECK.same("deep", p.of(deep - 1, 8), deep);
        }
        p.box(0, 0);
        p.box(9, 0);
        p.box(1, 0);
        CHECK.refusedAsTooMuch("11 deep", () -> p.pack(false, 0, 0, 0));
        CHECK.refusedArgument("11 deep, and no size", () -> p.pack(false, 0, RUNNING, 0));
        p.kern(MAX);
        p.kern(1);
        CHECK.refusedAsTooMuch("11 deep, and too long", () -> p.pack(false, 0, 0, 0));
        CHECK.same("boxes after refusals", p.boxes(), 10);
        CHECK.same("items after refusals", p.items(), 5);
        p.keep(1);
        CHECK.same("less deep", p.pack(false, 0, 0, 0), 10);
    }

    /** Packs naturally with the greatest depth 0 what the list has, expects refusal, and empties it. */
    private static void refusedNaturally(String what, BoxPacker p, boolean below) {
        int boxes = p.boxes();
        int items = p.items();
        CHECK.refusedState(what, () -> p.pack(below, 0, 0, 0));
        CHECK.same(what + ", boxes", p.boxes(), boxes);
        CHECK.same(what + ", items", p.items(), items);
        p.keep(0);
    }

    private static void sumsThatAreNoSizes() {
        BoxPacker p = new BoxPacker();
        p.kern(MAX);
        p.kern(1);
        p.kern(-1);
        refusedNaturally("along, too long in between", p, false);
        p.glue(-MAX, 0, 0, 0, 0);
        p.leaf(1, -1, 0, 0);
        refusedNaturally("along, too short", p, false);
        p.kern(MAX);
        p.leaf(1, 0, 0, 1);
        p.leaf(1, 0, -1, 0);
        refusedNaturally("below, a depth and a height are two", p, true);
        p.kern(MAX);
        p.leaf(1, 0, 0, 1);
        p.kern(-1);
        refusedNaturally("below, a depth and a width are two", p, true);
        p.kern(-MAX);
        p.leaf(1, 0, -1, 0);
        refusedNaturally("below, a height", p, true);
        p.kern(MAX);
        p.leaf(1, 0, 0, 1);
        refusedNaturally("below, too deep and then too long", p, true);
        for (int order = 0; order < 4; order++) {
            p.glue(0, MAX, order, 0, 0);
            p.glue(0, 1, order, 0, 0);
            refusedNaturally("stretch of order " + order, p, order % 2 == 0);
            p.glue(0, 0, 0, MAX, order);
            p.glue(0, 0, 0, 1, order);
            refusedNaturally("shrink of order " + order, p, order % 2 != 0);
        }
        boxesWithShifts(p);
        excessesThatAreNoSizes(p);
    }

    private static void boxesWithShifts(BoxPacker p) {
        p.leaf(1, 1, 1, 1);
        int box = p.pack(false, 0, 0, 0);
        p.box(box, -MAX);
        refusedNaturally("height less shift", p, false);
        p.box(box, MAX);
        refusedNaturally("depth and shift", p, false);
        p.box(box, MAX);
        refusedNaturally("width and shift", p, true);
        p.box(box, -MAX);
        int shifted = p.pack(true, 0, 0, MAX);
        sizes("below, height and depth go without the shift", p, shifted, 0, 1, 1);
        p.kern(-5);
        int negative = p.pack(false, 0, 0, 0);
        p.box(negative, -MAX);
        refusedNaturally("a width below 0 and shift", p, true);
        p.box(negative, -MAX);
        sizes("along, width goes without the shift", p, p.pack(false, 0, 0, 0), -5, MAX, 0);
        p.kern(-5);
        int low = p.pack(true, 0, 0, 0);
        p.box(low, MAX);
        refusedNaturally("a height below 0 less shift", p, false);
        p.leaf(1, 0, 0, -5);
        int shallow = p.pack(true, 0, 0, 0);
        p.box(shallow, -MAX);
        refusedNaturally("a depth below 0 and shift", p, false);
    }

    private static void excessesThatAreNoSizes(BoxPacker p) {
        p.kern(-1);
        CHECK.refusedState("excess too great", () -> p.pack(false, 1, MAX, 0));
        CHECK.refusedState("length too small", () -> p.pack(true, 2, -MAX, 0));
        p.keep(0);
        p.kern(1);
        CHECK.refusedState("excess too small", () -> p.pack(true, 1, -MAX, 0));
        CHECK.refusedState("length too great", () -> p.pack(false, 2, MAX, 0));
        p.keep(0);
        p.kern(-MAX);
        CHECK.refusedState("excess far too great", () -> p.pack(true, 1, MAX, 0));
        CHECK.same("items after refusals", p.items(), 1);
    }

    private static void sumsThatAreJustSizes() {
        BoxPacker p = new BoxPacker();
        p.kern(MAX - 1);
        p.kern(1);
        p.kern(-MAX);
        p.kern(-MAX);
        p.glue(MAX, MAX, 0, 0, 0);
        p.glue(0, 0, 0, MAX, 0);
        p.glue(0, MAX, 1, MAX, 1);
        p.glue(0, MAX, 2, MAX, 2);
        p.glue(0, MAX - 1, 3, MAX - 1, 3);
        p.glue(0, 1, 3, 1, 3);
        p.pack(false, 1, MAX, 0);
        sizes("the greatest sums", p, 0, MAX, 0, 0);
        order("the greatest sums", p, 0, 3, MAX);
        CHECK.same("the greatest excess", p.of(0, 3), MAX);
        p.kern(MAX);
        p.pack(true, 2, -MAX, 0);
        CHECK.same("the least excess", p.of(1, 3), -MAX);
        p.leaf(1, 1, 1, 1);
        p.pack(false, 0, 0, 0);
        p.box(2, 1 - MAX);
        p.box(2, MAX - 1);
        p.pack(false, 0, 0, 0);
        sizes("the greatest shifts", p, 3, 2, MAX, MAX);
    }
}
