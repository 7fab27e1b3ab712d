/** Promises 9 to 11 with ordinary inputs: packing, how many boxes there are, and what is told of a box. */
public final class PackTest {
    private static final Check CHECK = new Check();

    public static void main(String[] args) {
        boxes();
        parameters();
        along();
        below();
        greatestDepth();
        excess();
        orders();
        overfull();
        badness();
        deepAndInAll();
        whatIsTold();
        CHECK.finish();
    }

    private static void run(String title, String... rows) {
        Run.make(CHECK, title, rows);
    }

    /**
     * "The list is packed, and empty then: the box's number.", "BOXES have numbers 0, 1, 2, .. as they are
     * packed" and "How many boxes there are."
     */
    private static void boxes() {
        run("Boxes have numbers as they are packed", "boxes = 0; kern 5; kern 6; boxes = 0; pack along 0 0 0 = 0; boxes = 1",
            "items = 0; kern 7; pack below 0 0 0 = 1; boxes = 2; items = 0; pack along 0 0 0 = 2; boxes = 3; boxes = 3",
            "sizes 0 = 11 0 0; sizes 1 = 0 7 0; sizes 2 = 0 0 0; kern 8 = 0; pack along 0 0 0 = 3; of 3 0 = 8; of 3 9 = 1");
    }

    /**
     * "below: below one another, else along; how: 0 natural, 1 to a size, 2 by a size (0 for natural);
     * greatest: the greatest depth (packed below)"
     */
    private static void parameters() {
        String list = "leaf 1 10 20 30; leaf 2 1 2 3; ";
        run("Along", list + "pack along 0 0 1; sizes 0 = 11 20 30; of 0 3 = 0", list + "pack along 1 15 1; sizes 1 = 15 20 30",
            "of 1 3 = 4", list + "pack along 2 15 1; sizes 2 = 26 20 30; of 2 3 = 15");
        run("Below", list + "pack below 0 0 1; sizes 0 = 10 54 1; of 0 3 = 0", list + "pack below 1 15 1; sizes 1 = 10 15 1",
            "of 1 3 = -39", list + "pack below 2 15 1; sizes 2 = 10 69 1; of 2 3 = 15");
    }

    /** "its LENGTH is the sum of the widths of all items (a running one is 0)" and "Its width will be its length." */
    private static void along() {
        run("Along", "leaf 1 10 -7 -8; rule RUNNING -1 RUNNING; pack along 0 0 0 = 0; sizes 0 = 10 0 0",
            "leaf 1 10 5 2; kern -3; glue 100 1 0 1 0; rule 20 RUNNING 9; rule RUNNING 8 RUNNING; box 0 0",
            "pack along 0 0 0 = 1; sizes 1 = 137 8 9; boxes = 2; items = 0");
        run("Boxes along, raised and lowered", "leaf 1 137 8 9; pack along 0 0 0; box 0 -4; pack along 0 0 0",
            "sizes 1 = 137 12 5; box 0 10; pack along 0 0 0; sizes 2 = 137 0 19; box 0 -4; box 0 10; pack along 0 0 0",
            "sizes 3 = 274 12 19");
        run("The width is the length that was asked for", "leaf 1 10 5 2; glue 3 1 0 1 0; pack along 1 20 0; sizes 0 = 20 5 2",
            "leaf 1 10 5 2; glue 3 1 0 1 0; pack along 2 -9 0; sizes 1 = 4 5 2; box 0 0; box 1 0; pack along 0 0 0",
            "sizes 2 = 24 5 2");
    }

    /**
     * "from the first item on", "(a running height is 0), and its depth is the depth then (a running one 0)"
     * and "Its height will be its length."
     */
    private static void below() {
        run("Leaves below", "leaf 1 10 5 2; leaf 1 12 6 3; pack below 0 0 MAX; sizes 0 = 12 13 3",
            "leaf 1 10 5 2; kern 4; pack below 0 0 MAX; sizes 1 = 10 11 0");
        run("From the first item on", "leaf 1 10 5 2; leaf 1 12 6 3; kern 4; pack below 0 0 MAX; sizes 0 = 12 20 0",
            "kern 4; leaf 1 12 6 3; leaf 1 10 5 2; pack below 0 0 MAX; sizes 1 = 12 18 2",
            "leaf 1 12 6 3; kern 4; leaf 1 10 5 2; pack below 0 0 MAX; sizes 2 = 12 18 2");
        run("Running rules below", "glue 50 0 0 0 0; rule RUNNING RUNNING RUNNING; leaf 2 -5 1 -2; rule 3 7 RUNNING",
            "pack below 0 0 MAX; sizes 0 = 3 56 0; leaf 1 1 2 3; rule 1 RUNNING 9; pack below 0 0 MAX; sizes 1 = 1 5 9",
            "leaf 1 1 2 3; rule 1 9 RUNNING; leaf 1 1 0 0; pack below 0 0 MAX; sizes 2 = 1 14 0");
        run("Boxes below", "leaf 1 12 13 3; pack along 0 0 0; leaf 1 10 11 0; pack along 0 0 0; box 0 9; box 1 -30",
            "rule -8 1 6; pack below 0 0 MAX; sizes 2 = 21 28 6");
        run("The height is the length that was asked for", "leaf 1 10 5 2; glue 3 1 0 1 0; pack below 1 20 0; sizes 0 = 10 20 0",
            "glue 3 1 0 1 0; leaf 1 10 5 2; pack below 2 -9 2; sizes 1 = 10 -1 2; box 0 0; box 1 0; pack below 0 0 2",
            "sizes 2 = 10 19 2");
    }

    /** "At last, if the depth is above the GREATEST DEPTH given, what is above it is added to the length, and it is that." */
    private static void greatestDepth() {
        run("Too deep", "leaf 1 0 5 7; pack below 0 0 3; sizes 0 = 0 9 3; leaf 1 0 5 7; pack below 1 20 3",
            "sizes 1 = 0 20 3; of 1 3 = 11; leaf 1 0 5 7; pack below 0 0 9; sizes 2 = 0 5 7");
    }

    /** "THE EXCESS is what the size asked for is above the length" and "then the length becomes that size" */
    private static void excess() {
        run("Natural, to a size, by a size", "kern 30; pack along 0 0 0; of 0 0 = 30; of 0 3 = 0; kern 30; pack along 1 77 0",
            "of 1 0 = 77; of 1 3 = 47; kern 30; pack along 2 77 0; of 2 0 = 107; of 2 3 = 77; kern 30; pack below 1 -77 0",
            "of 3 1 = -77; of 3 3 = -107; kern 30; pack below 2 -77 0; of 4 1 = -47; of 4 3 = -77");
    }

    /**
     * "If the excess is above 0, the ORDER is the greatest one of which glue has a sum of stretch that is not
     * 0, and THE TOTAL that sum (order 0, total 0 if there is none); if it is below 0, the same with shrink;
     * if it is 0, both are 0."
     */
    private static void orders() {
        String glues = "glue 0 4 0 40 3; glue 0 5 1 50 0; glue 0 6 1 60 0; glue 0 0 2 70 3; ";
        run("Order and total", glues + "pack along 2 9 0; of 0 4 = 1; of 0 5 = 11",
            glues + "pack below 2 -9 0; of 1 4 = 3; of 1 5 = 110", glues + "pack along 2 0 0; of 2 4 = 0; of 2 5 = 0",
            "glue 0 4 0 5 0; glue 0 4 0 5 0; pack along 2 9 0; of 3 4 = 0; of 3 5 = 8");
        run("Glue within a box in the list has no say", "glue 0 4 3 40 3; pack along 0 0 0; box 0 0; glue 0 5 1 50 1",
            "pack along 2 9 0; fit 1 = 9 1 5 0 0; box 0 0; pack along 2 9 0; fit 2 = 9 0 0 10000 0; box 0 0",
            "pack along 2 -9 0; fit 3 = -9 0 0 1000000 9");
    }

    /** "the box is OVERFULL by what is missing still" */
    private static void overfull() {
        run("Overfull", "glue 0 0 0 5 0; pack along 2 -9 0; fit 0 = -9 0 5 1000000 4",
            "glue 0 0 0 5 0; pack along 2 -3 0; fit 1 = -3 0 5 22 0; glue 0 0 0 5 1; pack along 2 -9 0; fit 2 = -9 1 5 0 0");
    }

    /**
     * "otherwise, t being the excess without its sign and s the total: 10000 if s is 0; else r, rounded
     * down: 297 * t / s if t is not above 7230584; otherwise t / (s / 297) if s is not below 1663497 (s / 297 is
     * rounded down first), or t"
     */
    private static void badness() {
        String glue = "glue 0 100 0 100 0; pack along 2 ";
        run("Badness", glue + "10 0; of 0 6 = 0", glue + "50 0; of 1 6 = 12", glue + "-50 0; of 2 6 = 12",
            glue + "100 0; of 3 6 = 100", glue + "200 0; of 4 6 = 800", glue + "900 0; of 5 6 = 10000",
            "kern 1; pack along 2 9 0; of 6 6 = 10000");
        run("Badness of great sums", "glue 0 1000000000 0 0 0; pack along 2 1000000000 0; of 0 6 = 100",
            "glue 0 20000000 0 0 0; pack below 2 10000000 0; of 1 6 = 12; glue 0 9 0 0 0",
            "pack along 2 10000000 0; of 2 6 = 10000");
    }

    /**
     * "A box is as DEEP as 1 more than the deepest box in its list (1 without boxes); IN ALL it has as many
     * items as its list, and for each box in this as many more as that has in all"
     */
    private static void deepAndInAll() {
        run("How deep, how many items, how many in all", "kern 1; glue 1 0 0 0 0; rule 1 1 1; pack along 0 0 0",
            "counts 0 = 1 3 3; box 0 0; leaf 1 1 1 1; box 0 0; pack below 0 0 0; counts 1 = 2 3 9; box 1 0; box 0 0",
            "pack along 0 0 0; counts 2 = 3 2 14");
    }

    /**
     * "Of a box: 0 its width, 1 height, 2 depth; 3 the excess as it was asked, 4 the order, 5 the total, 6 the
     * badness, 7 by how much it is overfull, 8 how deep it is, 9 how many items its list has, 10 how many it has
     * in all."
     */
    private static void whatIsTold() {
        run("All that is told of a box", "6 * kern 0; pack along 0 0 0; leaf 1 50 22 33; glue 5 8 0 11 0; glue 0 0 1 0 1",
            "box 0 0; pack along 2 -15 0; of 1 0 = 40; of 1 1 = 22; of 1 2 = 33; of 1 3 = -15; of 1 4 = 0; of 1 5 = 11",
            "of 1 6 = 1000000; of 1 7 = 4; of 1 8 = 2; of 1 9 = 4; of 1 10 = 10");
        run("All that is told of another box", "6 * kern 0; pack along 0 0 0; leaf 1 50 22 33; glue 5 8 3 11 0; box 0 0; box 0 0",
            "kern 0; pack below 2 9 0; of 1 0 = 50; of 1 1 = 69; of 1 2 = 0; of 1 3 = 9; of 1 4 = 3; of 1 5 = 8; of 1 6 = 0",
            "of 1 7 = 0; of 1 8 = 2; of 1 9 = 5; of 1 10 = 17");
    }
}
