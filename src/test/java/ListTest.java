/** Promises 1 to 8: a new object, and what the list takes, refuses and keeps. */
public final class ListTest {
    private static final int RUNNING = BoxPacker.RUNNING;
    private static final int MAX = 1073741823;
    private static final int[] NO_SIZES = {MAX + 1, -MAX - 2, Integer.MAX_VALUE, Integer.MIN_VALUE};
    private static final Check CHECK = new Check();

    public static void main(String[] args) {
        aNewObject();
        leaf();
        rule();
        glue();
        kern();
        box();
        keep();
        fullList();
        CHECK.finish();
    }

    private static void aNewObject() {
        CHECK.same("RUNNING", BoxPacker.RUNNING, -1073741824);
        CHECK.same("NONE", BoxPacker.NONE, -1);
        BoxPacker p = new BoxPacker();
        CHECK.same("new: items", p.items(), 0);
        CHECK.same("new: boxes", p.boxes(), 0);
        CHECK.refusedIndex("new: mark", () -> p.mark(0, 0));
        CHECK.refusedIndex("new: of", () -> p.of(0, 0));
        CHECK.refusedIndex("new: place", () -> p.place(0, 0));
        CHECK.refusedIndex("new: lay", () -> p.lay(0, 0, 0));
        p.kern(1);
        CHECK.same("another new: items", new BoxPacker().items(), 0);
    }

    private static void leaf() {
        BoxPacker p = new BoxPacker();
        CHECK.same("leaf, least", p.leaf(0, -MAX, -MAX, -MAX), 0);
        CHECK.same("leaf, greatest", p.leaf(65535, MAX, MAX, MAX), 1);
        CHECK.refusedArgument("leaf, tag -1", () -> p.leaf(-1, 0, 0, 0));
        CHECK.refusedArgument("leaf, tag 65536", () -> p.leaf(65536, 0, 0, 0));
        CHECK.refusedArgument("leaf, running width", () -> p.leaf(0, RUNNING, 0, 0));
        CHECK.refusedArgument("leaf, running height", () -> p.leaf(0, 0, RUNNING, 0));
        CHECK.refusedArgument("leaf, running depth", () -> p.leaf(0, 0, 0, RUNNING));
        for (int n : NO_SIZES) {
            CHECK.refusedArgument("leaf, width " + n, () -> p.leaf(0, n, 0, 0));
            CHECK.refusedArgument("leaf, height " + n, () -> p.leaf(0, 0, n, 0));
            CHECK.refusedArgument("leaf, depth " + n, () -> p.leaf(0, 0, 0, n));
        }
        CHECK.same("leaf, items after refusals", p.items(), 2);
        p.keep(0);
        p.leaf(77, 3, 4, 5);
        p.pack(false, 0, 0, 0);
        CHECK.same("leaf, its width", p.of(0, 0), 3);
        CHECK.same("leaf, its height", p.of(0, 1), 4);
        CHECK.same("leaf, its depth", p.of(0, 2), 5);
        p.lay(0, 0, 0);
        CHECK.same("leaf, its tag", p.mark(0, 0), 77);
    }

    private static void rule() {
        BoxPacker p = new BoxPacker();
        CHECK.same("rule, least", p.rule(-MAX, -MAX, -MAX), 0);
        CHECK.same("rule, greatest", p.rule(MAX, MAX, MAX), 1);
        CHECK.same("rule, running", p.rule(RUNNING, RUNNING, RUNNING), 2);
        for (int n : NO_SIZES) {
            CHECK.refusedArgument("rule, width " + n, () -> p.rule(n, 0, 0));
            CHECK.refusedArgument("rule, height " + n, () -> p.rule(0, n, 0));
            CHECK.refusedArgument("rule, depth " + n, () -> p.rule(0, 0, n));
        }
        CHECK.same("rule, items after refusals", p.items(), 3);
        p.keep(0);
        p.rule(3, 4, 5);
        p.pack(false, 0, 0, 0);
        CHECK.same("rule, its width", p.of(0, 0), 3);
        CHECK.same("rule, its height", p.of(0, 1), 4);
        CHECK.same("rule, its depth", p.of(0, 2), 5);
    }

    private static void glue() {
        BoxPacker p = new BoxPacker();
        CHECK.same("glue, least", p.glue(-MAX, 0, 0, 0, 0), 0);
        CHECK.same("glue, greatest", p.glue(MAX, MAX, 3, MAX, 3), 1);
        CHECK.refusedArgument("glue, running width", () -> p.glue(RUNNING, 0, 0, 0, 0));
        for (int n : NO_SIZES) {
            CHECK.refusedArgument("glue, width " + n, () -> p.glue(n, 0, 0, 0, 0));
            CHECK.refusedArgument("glue, stretch " + n, () -> p.glue(0, n, 0, 0, 0));
            CHECK.refusedArgument("glue, shrink " + n, () -> p.glue(0, 0, 0, n, 0));
        }
        CHECK.refusedArgument("glue, stretch -1", () -> p.glue(0, -1, 0, 0, 0));
        CHECK.refusedArgument("glue, shrink -1", () -> p.glue(0, 0, 0, -1, 0));
        for (int order : new int[] {-1, 4, Integer.MIN_VALUE, Integer.MAX_VALUE}) {
            CHECK.refusedArgument("glue, order " + order, () -> p.glue(0, 0, order, 0, 0));
            CHECK.refusedArgument("glue, shrink order " + order, () -> p.glue(0, 0, 0, 0, order));
        }
        CHECK.same("glue, items after refusals", p.items(), 2);
        p.keep(0);
        p.glue(9, 5, 2, 7, 1);
        p.pack(false, 2, 4, 0);
        CHECK.same("glue, width stretched", p.of(0, 0), 13);
        CHECK.same("glue, stretch order", p.of(0, 4), 2);
        CHECK.same("glue, stretch", p.of(0, 5), 5);
        p.glue(9, 5, 2, 7, 1);
        p.pack(false, 2, -4, 0);
        CHECK.same("glue, width shrunk", p.of(1, 0), 5);
        CHECK.same("glue, shrink order", p.of(1, 4), 1);
        CHECK.same("glue, shrink", p.of(1, 5), 7);
    }

    private static void kern() {
        BoxPacker p = new BoxPacker();
        CHECK.same("kern, least", p.kern(-MAX), 0);
        CHECK.same("kern, greatest", p.kern(MAX), 1);
        CHECK.refusedArgument("kern, running", () -> p.kern(RUNNING));
        for (int n : NO_SIZES) {
            CHECK.refusedArgument("kern " + n, () -> p.kern(n));
        }
        CHECK.same("kern, items after refusals", p.items(), 2);
        p.keep(0);
        p.kern(6);
        p.pack(false, 2, 5, 0);
        CHECK.same("kern, width", p.of(0, 0), 11);
        CHECK.same("kern does not stretch", p.of(0, 5), 0);
    }

    private static void box() {
        BoxPacker p = new BoxPacker();
        CHECK.refusedIndex("box 0 of none", () -> p.box(0, 0));
        p.leaf(1, 10, 20, 30);
        p.pack(false, 0, 0, 0);
        p.kern(4);
        p.pack(false, 0, 0, 0);
        CHECK.same("box, least shift", p.box(0, -MAX), 0);
        CHECK.same("box, greatest shift", p.box(1, MAX), 1);
        CHECK.refusedIndex("box -1", () -> p.box(-1, 0));
        CHECK.refusedIndex("box 2 of 2", () -> p.box(2, 0));
        CHECK.refusedIndex("no such box, and no such shift", () -> p.box(2, RUNNING));
        CHECK.refusedArgument("box, shift RUNNING", () -> p.box(0, RUNNING));
        for (int n : NO_SIZES) {
            CHECK.refusedIndex("box " + n, () -> p.box(n, 0));
            CHECK.refusedArgument("box, shift " + n, () -> p.box(0, n));
        }
        CHECK.same("box, items after refusals", p.items(), 2);
        p.keep(0);
        p.box(0, 7);
        p.box(0, 0);
        p.box(1, -50);
        p.pack(false, 0, 0, 0);
        CHECK.same("boxes, width", p.of(2, 0), 24);
        CHECK.same("boxes, height less shift", p.of(2, 1), 50);
        CHECK.same("boxes, depth and shift", p.of(2, 2), 37);
    }

    private static void keep() {
        BoxPacker p = new BoxPacker();
        CHECK.isTrue("keep(0) of none", p.keep(0));
        CHECK.isTrue("keep(1) of none refused", !p.keep(1));
        p.kern(1);
        p.kern(20);
        p.kern(300);
        CHECK.isTrue("keep(-1) refused", !p.keep(-1));
        CHECK.isTrue("keep(least int) refused", !p.keep(Integer.MIN_VALUE));
        CHECK.isTrue("keep(4) of 3 refused", !p.keep(4));
        CHECK.isTrue("keep(greatest int) refused", !p.keep(Integer.MAX_VALUE));
        CHECK.same("items after refusals", p.items(), 3);
        CHECK.isTrue("keep(3) of 3", p.keep(3));
        CHECK.same("items, all kept", p.items(), 3);
        CHECK.isTrue("keep(2) of 3", p.keep(2));
        CHECK.same("items, two kept", p.items(), 2);
        CHECK.isTrue("keep(3) of 2 refused", !p.keep(3));
        CHECK.same("the next item", p.kern(4000), 2);
        p.pack(false, 0, 0, 0);
        CHECK.same("the first are kept", p.of(0, 0), 4021);
        CHECK.same("items once packed", p.items(), 0);
    }

    private static void fullList() {
        BoxPacker p = new BoxPacker();
        p.pack(false, 0, 0, 0);
        for (int i = 0; i < 100; i++) {
            CHECK.same("item " + i, p.kern(1), i);
        }
        CHECK.refusedAsTooMuch("101st item, leaf", () -> p.leaf(0, 0, 0, 0));
        CHECK.refusedAsTooMuch("101st item, rule", () -> p.rule(0, 0, 0));
        CHECK.refusedAsTooMuch("101st item, glue", () -> p.glue(0, 0, 0, 0, 0));
        CHECK.refusedAsTooMuch("101st item, kern", () -> p.kern(0));
        CHECK.refusedAsTooMuch("101st item, box", () -> p.box(0, 0));
        CHECK.refusedArgument("101st item, wrong leaf", () -> p.leaf(-1, 0, 0, 0));
        CHECK.refusedArgument("101st item, wrong rule", () -> p.rule(MAX + 2, 0, 0));
        CHECK.refusedArgument("101st item, wrong glue", () -> p.glue(0, -1, 0, 0, 0));
        CHECK.refusedArgument("101st item, wrong kern", () -> p.kern(RUNNING));
        CHECK.refusedArgument("101st item, wrong shift", () -> p.box(0, RUNNING));
        CHECK.refusedIndex("101st item, no box", () -> p.box(1, 0));
        CHECK.same("items of a full list", p.items(), 100);
        CHECK.isTrue("keep(99)", p.keep(99));
        CHECK.same("there is room again", p.kern(1), 99);
        p.pack(false, 0, 0, 0);
        CHECK.same("width of a full list", p.of(1, 0), 100);
        CHECK.same("items of a full list", p.of(1, 9), 100);
    }
}
