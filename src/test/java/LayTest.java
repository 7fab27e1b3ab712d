/** Promises 13 and 14: a box laid out, and its marks. */
public final class LayTest {
    private static final int RUNNING = BoxPacker.RUNNING;
    private static final int NONE = BoxPacker.NONE;
    private static final int MAX = 1073741823;
    private static final Check CHECK = new Check();

    public static void main(String[] args) {
        along();
        below();
        within();
        runningRules();
        rulesThatAreNotTold();
        farMarks();
        manyMarks();
        manyItems();
        wrongArguments();
        exampleOfTheReadme();
        CHECK.finish();
    }

    private static void mark(String what, BoxPacker p, int i, long... due) {
        for (int k = 0; k < due.length; k++) {
            CHECK.same(what + ", mark " + i + ", " + k, p.mark(i, k), due[k]);
        }
    }

    private static void along() {
        BoxPacker p = new BoxPacker();
        p.leaf(65, 10, 7, 2);
        p.glue(5, 1, 0, 0, 0);
        p.rule(3, 4, 5);
        p.kern(1);
        p.leaf(0, -6, -7, -8);
        p.pack(false, 2, 20, 0);
        CHECK.same("along", p.lay(0, 1000, 2000), 3);
        mark("along", p, 0, 65, 1000, 2000, 10, 7, 2);
        mark("along", p, 1, NONE, 1035, 2000, 3, 4, 5);
        mark("along", p, 2, 0, 1039, 2000, -6, -7, -8);
        CHECK.same("elsewhere", p.lay(0, -MAX, MAX), 3);
        mark("elsewhere", p, 0, 65, -MAX, MAX);
    }

    private static void below() {
        BoxPacker p = new BoxPacker();
        p.leaf(65, 10, 7, 2);
        p.glue(5, 1, 0, 0, 0);
        p.rule(3, 4, 5);
        p.kern(1);
        p.leaf(66, -6, -7, -8);
        p.pack(true, 2, 20, MAX);
        CHECK.same("below, height", p.of(0, 1), 37);
        CHECK.same("below", p.lay(0, 1000, 2000), 3);
        mark("below", p, 0, 65, 1000, 1970, 10, 7, 2);
        mark("below", p, 1, NONE, 1000, 2001, 3, 4, 5);
        mark("below", p, 2, 66, 1000, 2000, -6, -7, -8);
    }

    private static void within() {
        BoxPacker p = new BoxPacker();
        p.leaf(1, 10, 7, 2);
        p.leaf(2, 20, 9, 3);
        p.pack(false, 0, 0, 0);
        p.leaf(3, 30, 5, 4);
        p.box(0, 100);
        p.leaf(4, 30, 6, 4);
        p.pack(true, 0, 0, MAX);
        p.box(1, -50);
        p.leaf(5, 1, 1, 1);
        p.box(0, 8);
        p.pack(false, 0, 0, 0);
        CHECK.same("below, height", p.of(1, 1), 27);
        CHECK.same("below, width", p.of(1, 0), 130);
        CHECK.same("within", p.lay(2, 1000, 2000), 7);
        mark("within", p, 0, 3, 1000, 1928, 30, 5, 4);
        mark("within", p, 1, 1, 1100, 1941, 10, 7, 2);
        mark("within", p, 2, 2, 1110, 1941, 20, 9, 3);
        mark("within", p, 3, 4, 1000, 1950, 30, 6, 4);
        mark("within", p, 4, 5, 1130, 2000, 1, 1, 1);
        mark("within", p, 5, 1, 1131, 2008, 10, 7, 2);
        mark("within", p, 6, 2, 1141, 2008, 20, 9, 3);
        CHECK.same("a smaller box takes the marks' place", p.lay(0, 0, 0), 2);
        mark("a smaller box", p, 1, 2, 10, 0, 20, 9, 3);
        CHECK.refusedIndex("no mark is left over", () -> p.mark(2, 0));
    }

    private static void runningRules() {
        BoxPacker p = new BoxPacker();
        p.leaf(1, 10, 7, 2);
        p.rule(4, RUNNING, RUNNING);
        p.rule(5, RUNNING, 1);
        p.rule(6, -1, RUNNING);
        p.rule(RUNNING, 7, 2);
        p.pack(false, 2, 50, 0);
        CHECK.same("along", p.lay(0, 0, 0), 4);
        mark("along", p, 1, NONE, 10, 0, 4, 7, 2);
        mark("along", p, 2, NONE, 14, 0, 5, 7, 1);
        mark("along", p, 3, NONE, 19, 0, 6, -1, 2);
        p.leaf(1, 10, 7, 2);
        p.rule(RUNNING, 4, 1);
        p.rule(6, RUNNING, 3);
        p.rule(8, 5, RUNNING);
        p.rule(8, RUNNING, RUNNING);
        p.pack(true, 0, 0, MAX);
        CHECK.same("below", p.lay(1, 0, 22), 4);
        mark("below", p, 1, NONE, 0, 13, 10, 4, 1);
        mark("below", p, 2, NONE, 0, 14, 6, 0, 3);
        mark("below", p, 3, NONE, 0, 22, 8, 5, 0);
        p.box(1, 30);
        p.rule(RUNNING, 4, 0);
        p.pack(true, 0, 0, MAX);
        CHECK.same("as wide as the box it stands in", p.lay(2, 0, 0), 5);
        mark("as wide as the box it stands in", p, 4, NONE, 0, 0, 40, 4, 0);
    }

    private static void rulesThatAreNotTold() {
        BoxPacker p = new BoxPacker();
        p.rule(0, 5, 5);
        p.rule(-1, 5, 5);
        p.rule(5, 5, -5);
        p.rule(5, -3, 2);
        p.rule(1, 5, -4);
        p.rule(1, -4, 5);
        p.rule(1, -MAX, -MAX);
        p.rule(1, MAX, MAX);
        p.leaf(1, 0, 0, 0);
        p.leaf(2, -1, 0, 0);
        p.pack(false, 0, 0, 0);
        CHECK.same("told", p.lay(0, 0, 0), 5);
        mark("told", p, 0, NONE, 9, 0, 1, 5, -4);
        mark("told", p, 1, NONE, 10, 0, 1, -4, 5);
        mark("told", p, 2, NONE, 12, 0, 1, MAX, MAX);
        mark("told", p, 3, 1, 13, 0, 0, 0, 0);
        mark("told", p, 4, 2, 13, 0, -1, 0, 0);
        p.rule(RUNNING, 5, 5);
        p.kern(10);
        p.pack(true, 0, 0, MAX);
        CHECK.same("as wide as a box without a width", p.lay(1, 0, 0), 0);
        p.rule(5, RUNNING, RUNNING);
        p.pack(false, 0, 0, 0);
        CHECK.same("as high as a box without a height", p.lay(2, 0, 0), 0);
        CHECK.refusedIndex("no marks", () -> p.mark(0, 0));
    }

    private static void farMarks() {
        BoxPacker p = new BoxPacker();
        p.leaf(1, 1, 1, 1);
        p.pack(true, 0, 0, MAX);
        for (int box = 1; box < 10; box++) {
            p.box(box - 1, -MAX);
            p.pack(true, 0, 0, MAX);
        }
        CHECK.same("far to the left", p.lay(9, -MAX, 0), 1);
        mark("far to the left", p, 0, 1, -10L * MAX, 0, 1, 1, 1);
        p.kern(MAX);
        p.leaf(2, 0, 0, 0);
        p.kern(-MAX);
        p.pack(false, 0, 0, 0);
        for (int box = 11; box < 20; box++) {
            p.kern(MAX);
            p.box(box - 1, 0);
            p.kern(-MAX);
            p.pack(false, 0, 0, 0);
        }
        CHECK.same("far to the right", p.lay(19, MAX, 0), 1);
        mark("far to the right", p, 0, 2, 11L * MAX, 0, 0, 0, 0);
        p.kern(MAX);
        p.leaf(3, 0, 0, 0);
        p.kern(-MAX);
        p.pack(true, 0, 0, 0);
        p.kern(MAX);
        p.box(20, 0);
        p.kern(-MAX);
        p.pack(true, 0, 0, 0);
        CHECK.same("far down", p.lay(21, 0, MAX), 1);
        mark("far down", p, 0, 3, 0, 3L * MAX, 0, 0, 0);
    }

    private static void manyMarks() {
        BoxPacker p = new BoxPacker();
        for (int i = 0; i < 100; i++) {
            p.leaf(i, 1, 1, 0);
        }
        p.pack(false, 0, 0, 0);
        addBoxes(p, 0, 10);
        p.pack(true, 0, 0, 0);
        p.box(1, 0);
        p.rule(1, 1, 0);
        p.pack(false, 0, 0, 0);
        p.box(1, 0);
        p.rule(1, 0, 0);
        p.pack(false, 0, 0, 0);
        CHECK.same("a thousand marks", p.lay(1, 0, 10), 1000);
        mark("a thousand marks", p, 999, 99, 99, 10, 1, 1, 0);
        CHECK.same("more than a thousand", p.lay(2, 0, 0), NONE);
        CHECK.refusedIndex("none then", () -> p.mark(0, 0));
        CHECK.same("a thousand, and a rule that is not told", p.lay(3, 0, 0), 1000);
        CHECK.refusedIndex("mark 1000", () -> p.mark(1000, 0));
    }

    private static void addBoxes(BoxPacker p, int box, int times) {
        for (int i = 0; i < times; i++) {
            p.box(box, 0);
        }
    }

    private static void addKerns(BoxPacker p, int times) {
        for (int i = 0; i < times; i++) {
            p.kern(1);
        }
    }

    private static void manyItems() {
        BoxPacker p = new BoxPacker();
        addKerns(p, 99);
        p.pack(false, 0, 0, 0);
        addKerns(p, 96);
        p.leaf(1, 1, 1, 1);
        p.pack(false, 0, 0, 0);
        addBoxes(p, 0, 100);
        p.pack(false, 0, 0, 0);
        addBoxes(p, 0, 99);
        p.box(1, 0);
        p.pack(false, 0, 0, 0);
        p.box(2, 0);
        p.box(3, 0);
        p.pack(false, 0, 0, 0);
        p.box(2, 0);
        p.box(3, 0);
        p.kern(0);
        p.pack(false, 0, 0, 0);
        CHECK.same("20000 in all", p.of(4, 10), 20000);
        CHECK.same("20001 in all", p.of(5, 10), 20001);
        CHECK.same("20000 items", p.lay(4, 0, 0), 1);
        mark("20000 items", p, 0, 1, 199 * 99 + 96, 0);
        CHECK.same("20001 items", p.lay(5, 0, 0), NONE);
        CHECK.refusedIndex("none then", () -> p.mark(0, 0));
    }

    private static void wrongArguments() {
        BoxPacker p = new BoxPacker();
        p.leaf(7, 1, 1, 1);
        p.pack(false, 0, 0, 0);
        p.pack(false, 0, 0, 0);
        p.lay(0, 3, 4);
        CHECK.refusedIndex("lay, box -1", () -> p.lay(-1, 0, 0));
        CHECK.refusedIndex("lay, box 2 of 2", () -> p.lay(2, 0, 0));
        CHECK.refusedIndex("lay, no box and no size", () -> p.lay(2, RUNNING, RUNNING));
        for (int n : new int[] {RUNNING, MAX + 1, Integer.MIN_VALUE, Integer.MAX_VALUE}) {
            CHECK.refusedArgument("lay, x " + n, () -> p.lay(1, n, 0));
            CHECK.refusedArgument("lay, y " + n, () -> p.lay(1, 0, n));
            CHECK.refusedIndex("lay, box " + n, () -> p.lay(n, 0, 0));
            CHECK.refusedIndex("mark " + n, () -> p.mark(n, 0));
            CHECK.refusedIndex("mark, what " + n, () -> p.mark(0, n));
        }
        CHECK.refusedIndex("mark, what -1", () -> p.mark(0, -1));
        CHECK.refusedIndex("mark, what 6", () -> p.mark(0, 6));
        CHECK.refusedIndex("mark -1", () -> p.mark(-1, 5));
        CHECK.refusedIndex("mark 1 of 1", () -> p.mark(1, 0));
        mark("refusals leave the marks", p, 0, 7, 3, 4, 1, 1, 1);
        p.kern(1);
        p.pack(false, 0, 0, 0);
        mark("packing leaves the marks", p, 0, 7, 3, 4, 1, 1, 1);
        CHECK.same("an empty box", p.lay(1, 0, 0), 0);
        CHECK.refusedIndex("an empty box has no marks", () -> p.mark(0, 0));
    }

    private static void exampleOfTheReadme() {
        BoxPacker p = new BoxPacker();
        p.leaf('A', 100, 70, 20);
        p.glue(5, 3, 0, 2, 0);
        p.leaf('B', 100, 70, 20);
        int line = p.pack(false, 1, 207, 0);
        CHECK.same("README, badness", p.of(line, 6), 30);
        CHECK.same("README, place", p.place(line, 2), 107);
        p.box(line, 0);
        p.kern(10);
        p.rule(RUNNING, 1, 0);
        int page = p.pack(true, 0, 0, 0);
        CHECK.same("README, marks", p.lay(page, 0, 101), 3);
        mark("README", p, 2, NONE, 0, 101, 207, 1, 0);
    }
}
