/** The boundary cases of promises 9 to 11: what pack takes, and what it makes of heights, depths and glue. */
public final class PackBoundaryTest {
    private static final Check CHECK = new Check();
    private static final String[] WAYS = {"along", "below"};
    private static final String TEN_DEEP = "pack along 0 0 0; box 0 0; pack below 0 0 0; box 1 0; pack along 0 0 0;"
        + "box 2 0; pack below 0 0 0; box 3 0; pack along 0 0 0; box 4 0; pack below 0 0 0; box 5 0;"
        + "pack along 0 0 0; box 6 0; pack below 0 0 0; box 7 0; pack along 0 0 0; box 8 0; pack below 0 0 0 = 9";
    /** Boxes with 10, 110, 1110, 11110 and 111110 items in all. */
    private static final String MANY_IN_ALL = "10 * kern 0; pack along 0 0 0; 10 * box 0 0; pack along 0 0 0;"
        + "10 * box 1 0; pack below 0 0 0; 10 * box 2 0; pack along 0 0 0; 10 * box 3 0; pack along 0 0 0 = 4";

    public static void main(String[] args) {
        how();
        sizeAndGreatest();
        aHundredBoxes();
        tenDeep();
        aMillionInAll();
        emptyList();
        heightsAlong();
        depthsAlong();
        widthsBelow();
        lengthsBelow();
        greatestDepth();
        excess();
        orders();
        overfull();
        badnessOfGlue();
        badnessRounded();
        badnessOfGreatExcesses();
        whatThereIsOfABox();
        CHECK.finish();
    }

    private static void run(String title, String... rows) {
        Run.make(CHECK, title, rows);
    }

    /** "IllegalArgumentException when how is not 0 .. 2" */
    private static void how() {
        for (String way : WAYS) {
            for (String how : new String[] {"-1", "3", "-2", "4", "INT_MIN", "INT_MAX"}) {
                run("how is not 0 .. 2: " + how, "kern 5; pack " + way + " " + how + " 0 0 ! argument",
                    "items = 1; boxes = 0; kern 6 = 1; pack along 0 0 0 = 0; of 0 0 = 11");
            }
        }
        run("how 0, 1 and 2", "kern 5; pack along 0 9 0 = 0; fit 0 = 0 0 0 0 0; of 0 0 = 5",
            "kern 5; pack along 1 9 0 = 1; fit 1 = 4 0 0 10000 0; of 1 0 = 9",
            "kern 5; pack along 2 9 0 = 2; fit 2 = 9 0 0 10000 0; of 2 0 = 14");
    }

    /** "or size or greatest are no sizes" */
    private static void sizeAndGreatest() {
        String[] noSizes = {"RUNNING", "-MAX-2", "MAX+1", "MAX+2", "INT_MIN", "INT_MAX"};
        for (String way : WAYS) {
            for (int how = 0; how < 3; how++) {
                String call = "pack " + way + " " + how + " ";
                for (String n : noSizes) {
                    run("The size or the greatest depth is no size", "kern 5; " + call + n + " 0 ! argument",
                        call + "0 " + n + " ! argument; items = 1; boxes = 0; pack along 0 0 0 = 0; of 0 0 = 5");
                }
            }
            run("The size is the greatest", "pack " + way + " 1 MAX 0 = 0; of 0 3 = MAX; items = 0",
                "pack " + way + " 2 MAX 0 = 1; of 1 3 = MAX; pack " + way + " 0 MAX 0 = 2; of 2 3 = 0");
            run("The size is the least", "pack " + way + " 1 -MAX 0 = 0; of 0 3 = -MAX; items = 0",
                "pack " + way + " 2 -MAX 0 = 1; of 1 3 = -MAX; pack " + way + " 0 -MAX 0 = 2; of 2 3 = 0");
        }
        run("The greatest depth has no say along", "leaf 1 2 3 4; pack along 0 0 -MAX; sizes 0 = 2 3 4",
            "leaf 1 2 3 4; pack along 0 0 MAX; sizes 1 = 2 3 4");
    }

    /** "UnsupportedOperationException when there are 100 boxes" */
    private static void aHundredBoxes() {
        for (String way : WAYS) {
            run("There are 100 boxes, " + way, "98 * pack " + way + " 0 0 0; boxes = 98; kern 3",
                "pack " + way + " 0 0 0 = 98; boxes = 99; kern 4; pack " + way + " 0 0 0 = 99; boxes = 100; kern 5",
                "pack " + way + " 0 0 0 ! too much; boxes = 100; items = 1; of 100 0 ! index",
                "keep 0 = true; pack " + way + " 0 0 0 ! too much; boxes = 100; of 99 9 = 1; kern 6 = 0");
        }
    }

    /** "or it would be more than 10 deep" */
    private static void tenDeep() {
        for (String way : WAYS) {
            run("10 deep, and more, " + way, TEN_DEEP, "of 9 8 = 10; of 8 8 = 9; of 0 8 = 1; box 9 0",
                "pack " + way + " 0 0 0 ! too much; boxes = 10; items = 1; kern 1 = 1; box 8 0 = 2",
                "pack " + way + " 0 0 0 ! too much; items = 3; keep 0 = true; box 8 0 = 0; kern 1 = 1",
                "pack " + way + " 0 0 0 = 10; of 10 8 = 10; items = 0");
            run("The deepest box first, in the middle and last, " + way, TEN_DEEP,
                "box 8 0; box 0 0; kern 0; pack " + way + " 0 0 0 = 10; of 10 8 = 10",
                "box 0 0; box 8 0; box 1 0; pack " + way + " 0 0 0 = 11; of 11 8 = 10",
                "box 9 0; box 0 0; pack " + way + " 0 0 0 ! too much; keep 0 = true",
                "box 0 0; box 9 0; pack " + way + " 0 0 0 ! too much; keep 1 = true; pack " + way + " 0 0 0 = 12",
                "of 12 8 = 2");
        }
        run("1 deep without boxes", "pack along 0 0 0; of 0 8 = 1; leaf 1 1 1 1; rule 1 1 1; kern 1",
            "glue 0 0 0 0 0; pack below 0 0 0; of 1 8 = 1; box 1 0; pack below 0 0 0; of 2 8 = 2");
    }

    /** "(1000000 if there are more)" */
    private static void aMillionInAll() {
        run("999999 in all", MANY_IN_ALL, "counts 4 = 5 10 111110; 9 * box 4 0; pack along 0 0 0",
            "counts 5 = 6 9 999999");
        run("1000000 in all", MANY_IN_ALL, "9 * box 4 0; kern 0; pack along 0 0 0; counts 5 = 6 10 1000000");
        run("1000001 in all", MANY_IN_ALL, "9 * box 4 0; 2 * kern 0; pack along 0 0 0; counts 5 = 6 11 1000000");
        run("A box with more than 1000000 in all within a box", MANY_IN_ALL,
            "10 * box 4 0; pack along 0 0 0; counts 5 = 6 10 1000000; box 5 0; pack along 0 0 0",
            "counts 6 = 7 1 1000000; 100 * box 6 0; pack below 0 0 0; counts 7 = 8 100 1000000");
        run("Few in all", "pack along 0 0 0; counts 0 = 1 0 0; kern 0; pack along 0 0 0; counts 1 = 1 1 1",
            "box 0 0; pack along 0 0 0; counts 2 = 2 1 1; 2 * box 1 0; pack along 0 0 0; counts 3 = 2 2 4");
    }

    /** "with a length of 0 and a depth of 0 at first" */
    private static void emptyList() {
        run("An empty list", "pack along 0 0 0 = 0; sizes 0 = 0 0 0; fit 0 = 0 0 0 0 0; counts 0 = 1 0 0",
            "pack below 0 0 0 = 1; sizes 1 = 0 0 0; fit 1 = 0 0 0 0 0; counts 1 = 1 0 0");
        run("An empty list, to and by a size", "pack along 1 7 0; sizes 0 = 7 0 0; fit 0 = 7 0 0 10000 0",
            "pack below 1 -7 0; sizes 1 = 0 -7 0; fit 1 = -7 0 0 1000000 7",
            "pack along 2 -7 0; sizes 2 = -7 0 0; pack below 2 7 0; sizes 3 = 0 7 0");
        run("An empty list has the depth 0, which may be above the greatest", "pack below 0 0 1; sizes 0 = 0 0 0",
            "pack below 0 0 0; sizes 1 = 0 0 0; pack below 0 0 -1; sizes 2 = 0 1 -1",
            "pack below 0 0 -MAX; sizes 3 = 0 MAX -MAX");
    }

    /**
     * "its height is the greatest of 0, the heights of leaves and rules that are not running, and the
     * heights of boxes less their shifts"
     */
    private static void heightsAlong() {
        run("The greatest of 0 and the heights of leaves", "leaf 1 0 -1 0; pack along 0 0 0; of 0 1 = 0",
            "leaf 1 0 0 0; pack along 0 0 0; of 1 1 = 0; leaf 1 0 1 0; pack along 0 0 0; of 2 1 = 1",
            "leaf 1 0 1 0; leaf 1 0 2 0; leaf 1 0 1 0; pack along 0 0 0; of 3 1 = 2");
        run("The greatest of 0 and the heights of rules", "rule 0 -1 0; pack along 0 0 0; of 0 1 = 0",
            "rule 0 0 0; pack along 0 0 0; of 1 1 = 0; rule 0 1 0; pack along 0 0 0; of 2 1 = 1",
            "rule 0 RUNNING 0; pack along 0 0 0; of 3 1 = 0; rule 0 1 0; rule 0 RUNNING 0; pack along 0 0 0; of 4 1 = 1");
        run("The greatest of 0 and the heights of boxes less their shifts", "leaf 1 0 5 0; pack along 0 0 0",
            "box 0 6; pack along 0 0 0; of 1 1 = 0; box 0 5; pack along 0 0 0; of 2 1 = 0",
            "box 0 4; pack along 0 0 0; of 3 1 = 1; box 0 -1; pack along 0 0 0; of 4 1 = 6");
        run("Glue and kerns have a width alone", "kern 9; glue 8 7 0 7 0; pack along 0 0 0; sizes 0 = 17 0 0");
        run("A running width is 0", "rule RUNNING 0 0; pack along 0 0 0; of 0 0 = 0; kern 4; rule RUNNING 3 3; kern 5",
            "pack along 0 0 0; sizes 1 = 9 3 3; places 1 = 0 4 4");
    }

    /**
     * "its depth the greatest of 0, the depths of leaves and of rules that are not running, and the
     * depths of boxes with their shifts added"
     */
    private static void depthsAlong() {
        run("The greatest of 0 and the depths of leaves", "leaf 1 0 0 -1; pack along 0 0 0; of 0 2 = 0",
            "leaf 1 0 0 0; pack along 0 0 0; of 1 2 = 0; leaf 1 0 0 1; pack along 0 0 0; of 2 2 = 1",
            "leaf 1 0 0 1; leaf 1 0 0 2; leaf 1 0 0 1; pack along 0 0 0; of 3 2 = 2");
        run("The greatest of 0 and the depths of rules", "rule 0 0 -1; pack along 0 0 0; of 0 2 = 0",
            "rule 0 0 0; pack along 0 0 0; of 1 2 = 0; rule 0 0 1; pack along 0 0 0; of 2 2 = 1",
            "rule 0 0 RUNNING; pack along 0 0 0; of 3 2 = 0; rule 0 0 1; rule 0 0 RUNNING; pack along 0 0 0; of 4 2 = 1");
        run("The greatest of 0 and the depths of boxes with their shifts added", "leaf 1 0 0 5; pack along 0 0 0",
            "box 0 -6; pack along 0 0 0; of 1 2 = 0; box 0 -5; pack along 0 0 0; of 2 2 = 0",
            "box 0 -4; pack along 0 0 0; of 3 2 = 1; box 0 1; pack along 0 0 0; of 4 2 = 6");
    }

    /**
     * "Its width is the greatest of 0, the widths of leaves and of rules that are not running, and the
     * widths of boxes with their shifts added."
     */
    private static void widthsBelow() {
        run("The greatest of 0 and the widths of leaves", "leaf 1 -1 0 0; pack below 0 0 0; of 0 0 = 0",
            "leaf 1 0 0 0; pack below 0 0 0; of 1 0 = 0; leaf 1 1 0 0; pack below 0 0 0; of 2 0 = 1",
            "leaf 1 1 0 0; leaf 1 2 0 0; leaf 1 1 0 0; pack below 0 0 0; of 3 0 = 2");
        run("The greatest of 0 and the widths of rules", "rule -1 0 0; pack below 0 0 0; of 0 0 = 0",
            "rule 0 0 0; pack below 0 0 0; of 1 0 = 0; rule 1 0 0; pack below 0 0 0; of 2 0 = 1",
            "rule RUNNING 0 0; pack below 0 0 0; of 3 0 = 0; rule 1 0 0; rule RUNNING 0 0; pack below 0 0 0; of 4 0 = 1");
        run("The greatest of 0 and the widths of boxes with their shifts added", "kern 5; pack along 0 0 0",
            "box 0 -6; pack below 0 0 0; of 1 0 = 0; box 0 -5; pack below 0 0 0; of 2 0 = 0",
            "box 0 -4; pack below 0 0 0; of 3 0 = 1; box 0 1; pack below 0 0 0; of 4 0 = 6");
        run("Widths of glue and kerns are no widths below", "kern 9; glue 8 7 0 7 0; pack below 0 0 0; sizes 0 = 0 17 0");
    }

    /** "for glue and kerns the depth and the width are added to the length, and the depth is 0 then" */
    private static void lengthsBelow() {
        run("A depth is added once something comes behind it", "leaf 1 0 5 3; pack below 0 0 3; sizes 0 = 0 5 3",
            "leaf 1 0 5 3; leaf 1 0 0 0; pack below 0 0 3; sizes 1 = 0 8 0",
            "leaf 1 0 5 3; rule 0 0 0; pack below 0 0 3; sizes 2 = 0 8 0; leaf 1 0 5 3; kern 0; pack below 0 0 3",
            "sizes 3 = 0 8 0; leaf 1 0 5 3; glue 0 0 0 0 0; pack below 0 0 3; sizes 4 = 0 8 0",
            "leaf 1 0 5 3; box 0 0; pack below 0 0 3; sizes 5 = 0 13 3");
        run("A running height is 0, a running depth is 0", "rule 0 RUNNING 4; pack below 0 0 MAX; sizes 0 = 0 0 4",
            "rule 0 4 RUNNING; pack below 0 0 MAX; sizes 1 = 0 4 0; leaf 1 0 1 2; rule 0 RUNNING RUNNING",
            "pack below 0 0 MAX; sizes 2 = 0 3 0; rule 0 -MAX 4; pack below 0 0 MAX; sizes 3 = 0 -MAX 4");
        run("Behind glue and kerns the depth is 0", "leaf 1 0 5 3; kern 2; kern 2; pack below 0 0 MAX; sizes 0 = 0 12 0",
            "leaf 1 0 5 3; glue 2 0 0 0 0; leaf 1 0 1 0; pack below 0 0 MAX; sizes 1 = 0 11 0");
        run("Boxes go with their heights and depths, whatever their shifts", "leaf 1 0 5 3; pack along 0 0 0",
            "box 0 99; pack below 0 0 MAX; sizes 1 = 99 5 3; box 0 -99; pack below 0 0 MAX; sizes 2 = 0 5 3");
    }

    /**
     * "if the depth is above the GREATEST DEPTH given, what is above it is added to the length, and it
     * is that"
     */
    private static void greatestDepth() {
        run("A depth of 7, and the greatest depth", "leaf 1 0 5 7; pack below 0 0 8; sizes 0 = 0 5 7",
            "leaf 1 0 5 7; pack below 0 0 7; sizes 1 = 0 5 7; leaf 1 0 5 7; pack below 0 0 6; sizes 2 = 0 6 6",
            "leaf 1 0 5 7; pack below 0 0 0; sizes 3 = 0 12 0; leaf 1 0 5 7; pack below 0 0 -1; sizes 4 = 0 13 -1");
        run("A depth of 0 behind a kern, and the greatest depth", "kern 5; pack below 0 0 1; sizes 0 = 0 5 0",
            "kern 5; pack below 0 0 0; sizes 1 = 0 5 0; kern 5; pack below 0 0 -1; sizes 2 = 0 6 -1");
        run("A depth of -7, and the greatest depth", "leaf 1 0 5 -7; pack below 0 0 -6; sizes 0 = 0 5 -7",
            "leaf 1 0 5 -7; pack below 0 0 -7; sizes 1 = 0 5 -7; leaf 1 0 5 -7; pack below 0 0 -8; sizes 2 = 0 6 -8");
        run("The ends", "leaf 1 0 0 MAX; pack below 0 0 MAX; sizes 0 = 0 0 MAX; leaf 1 0 0 MAX; pack below 0 0 MAX-1",
            "sizes 1 = 0 1 MAX-1; leaf 1 0 0 -MAX; pack below 0 0 -MAX; sizes 2 = 0 0 -MAX",
            "leaf 1 0 0 -MAX+1; pack below 0 0 -MAX; sizes 3 = 0 1 -MAX");
        run("What is above it comes before the excess", "leaf 1 0 5 7; pack below 1 6 6; sizes 0 = 0 6 6; of 0 3 = 0",
            "leaf 1 0 5 7; pack below 1 6 7; sizes 1 = 0 6 7; of 1 3 = 1; leaf 1 0 5 7; pack below 1 6 5",
            "sizes 2 = 0 6 5; of 2 3 = -1; leaf 1 0 5 7; pack below 2 4 5; sizes 3 = 0 11 5; of 3 3 = 4");
        run("Only the last depth is held against it", "leaf 1 0 5 7; leaf 1 0 1 1; pack below 0 0 1; sizes 0 = 0 13 1",
            "leaf 1 0 5 7; rule 0 1 RUNNING; pack below 0 0 0; sizes 1 = 0 13 0");
    }

    /** "natural: 0; to a size: that size less the length; by a size: that size" */
    private static void excess() {
        for (String way : WAYS) {
            String glue = "glue 10 3 1 4 2; pack " + way + " ";
            run("To a size, " + way, glue + "1 9 0; fit 0 = -1 2 4 0 0", glue + "1 10 0; fit 1 = 0 0 0 0 0",
                glue + "1 11 0; fit 2 = 1 1 3 0 0");
            run("By a size, " + way, glue + "2 -1 0; fit 0 = -1 2 4 0 0", glue + "2 0 0; fit 1 = 0 0 0 0 0",
                glue + "2 1 0; fit 2 = 1 1 3 0 0");
            run("Natural, whatever the size, " + way, glue + "0 -1 0; fit 0 = 0 0 0 0 0",
                glue + "0 0 0; fit 1 = 0 0 0 0 0", glue + "0 1 0; fit 2 = 0 0 0 0 0");
        }
        run("The length becomes that size", "kern 10; pack along 1 9 0; sizes 0 = 9 0 0; kern 10; pack along 1 10 0",
            "sizes 1 = 10 0 0; kern 10; pack along 1 11 0; sizes 2 = 11 0 0; kern 10; pack below 2 -1 0",
            "sizes 3 = 0 9 0; kern 10; pack below 2 0 0; sizes 4 = 0 10 0; kern 10; pack below 2 1 0; sizes 5 = 0 11 0",
            "kern 10; pack below 0 1 0; sizes 6 = 0 10 0; kern 10; pack along 0 -1 0; sizes 7 = 10 0 0");
    }

    /** "the ORDER is the greatest one of which glue has a sum of stretch that is not 0" */
    private static void orders() {
        for (int order = 0; order < 4; order++) {
            int other = 3 - order;
            run("A sum of 1, and of 0, of order " + order,
                "glue 0 1 " + order + " 1 " + other + "; pack along 2 1 0; of 0 4 = " + order + "; of 0 5 = 1",
                "glue 0 1 " + order + " 1 " + other + "; pack along 2 -1 0; of 1 4 = " + other + "; of 1 5 = 1",
                "glue 0 0 " + order + " 1 " + other + "; pack along 2 1 0; of 2 4 = 0; of 2 5 = 0",
                "glue 0 1 " + order + " 0 " + other + "; pack along 2 -1 0; of 3 4 = 0; of 3 5 = 0",
                "glue 0 1 " + order + " 1 " + other + "; pack along 2 0 0; of 4 4 = 0; of 4 5 = 0");
        }
        String all = "glue 0 7 0 70 0; glue 0 6 1 60 1; glue 0 5 2 50 2; glue 0 4 3 40 3; ";
        run("The greatest order, of four", all + "pack along 2 9 0; fit 0 = 9 3 4 0 0",
            all + "pack below 2 -9 0; fit 1 = -9 3 40 0 0", all + "pack along 2 0 0; fit 2 = 0 0 0 0 0");
        String zeros = "glue 0 0 3 0 3; glue 0 1 1 1 2; glue 0 0 2 0 3; glue 0 2 1 3 2; glue 0 9 0 9 0; ";
        run("The greatest order whose sum is not 0", zeros + "pack along 2 9 0; fit 0 = 9 1 3 0 0",
            zeros + "pack below 2 -9 0; fit 1 = -9 2 4 0 0");
        run("No glue at all", "kern 5; pack along 2 1 0; fit 0 = 1 0 0 10000 0; kern 5; pack along 2 -1 0",
            "fit 1 = -1 0 0 1000000 1; kern 5; pack along 2 0 0; fit 2 = 0 0 0 0 0");
    }

    /**
     * "If the excess is below 0, the order 0, and the total less than what is missing, the box is
     * OVERFULL"
     */
    private static void overfull() {
        for (String way : WAYS) {
            String glue = "glue 20 0 0 4 0; kern 5; glue 20 0 0 6 0; pack " + way + " 2 ";
            run("A total of 10, and 9, 10 or 11 missing, " + way, glue + "-9 0; fit 0 = -9 0 10 73 0",
                glue + "-10 0; fit 1 = -10 0 10 100 0", glue + "-11 0; fit 2 = -11 0 10 1000000 1",
                glue + "-45 0; fit 3 = -45 0 10 1000000 35", "of 2 3 = -11; of 2 5 = 10");
            run("An overfull box gives no more than the total, " + way, glue + "-9 0; places 0 = 0 16 21",
                glue + "-10 0; places 1 = 0 16 21", glue + "-11 0; places 2 = 0 16 21", glue + "-45 0; places 3 = 0 16 21");
        }
        run("Never overfull when the order is above 0", "glue 0 0 0 10 1; pack along 2 -11 0; fit 0 = -11 1 10 0 0",
            "glue 0 0 0 1 1; glue 0 0 0 2 0; pack along 2 -MAX 0; fit 1 = -MAX 1 1 0 0");
        run("Never overfull when the excess is not below 0", "glue 0 1 0 0 0; pack along 2 0 0; fit 0 = 0 0 0 0 0",
            "glue 0 1 0 0 0; pack along 2 1 0; fit 1 = 1 0 1 100 0; glue 0 1 0 0 0; pack along 2 2 0",
            "fit 2 = 2 0 1 800 0; kern 0; pack along 2 1 0; fit 3 = 1 0 0 10000 0");
        run("Nothing to shrink", "kern 9; pack along 2 -1 0; fit 0 = -1 0 0 1000000 1; glue 9 5 0 0 3; pack along 2 -1 0",
            "fit 1 = -1 0 0 1000000 1; kern MAX; pack along 2 -MAX 0; fit 2 = -MAX 0 0 1000000 MAX");
    }

    /** The badness of glue with this stretch and shrink, packed by the excess. */
    private static void badness(int give, int excess, int due) {
        for (String way : WAYS) {
            run("Badness, stretch or shrink " + give + ", excess " + excess,
                "glue 0 " + give + " 0 " + give + " 0; pack " + way + " 2 " + excess + " 0; of 0 6 = " + due);
        }
    }

    /** "1000000 if it is overfull; 0 if the excess is 0, or the order above 0" */
    private static void badnessOfGlue() {
        badness(10, 0, 0);
        badness(0, 0, 0);
        badness(0, 1, 10000);
        badness(0, -1, 1000000);
        badness(1, -1, 100);
        badness(1, -2, 1000000);
        badness(1, 1, 100);
        badness(1, 4, 6396);
        badness(1, 5, 10000);
        run("Order 1, 0 and the excess 0", "glue 0 1 1 1 1; pack along 2 9 0; of 0 6 = 0; glue 0 1 1 1 1",
            "pack along 2 -9 0; of 1 6 = 0; glue 0 1 0 1 0; pack along 2 9 0; of 2 6 = 10000; glue 0 1 0 1 0",
            "pack along 2 0 0; of 3 6 = 0; glue 0 9 0 9 0; glue 0 0 1 0 1; pack along 2 9 0; of 4 6 = 100");
    }

    /** "if r is above 1290, 10000; else (r * r * r + 131072) / 262144, rounded down" */
    private static void badnessRounded() {
        // r is t when s is 297; its cube and a half are a whole 262144 from 51 on, and two from 74 on.
        badness(297, 50, 0);
        badness(297, 51, 1);
        badness(297, -50, 0);
        badness(297, -51, 1);
        badness(297, 73, 1);
        badness(297, 74, 2);
        badness(297, 296, 99);
        badness(297, 297, 100);
        badness(297, 298, 101);
        badness(297, 1289, 8170);
        badness(297, 1290, 8189);
        badness(297, 1291, 10000);
        // The cube of 359 and a half are 137 short of 177 wholes; those of 866 are 136 above 2478.
        badness(297, 359, 176);
        badness(297, 866, 2478);
        // 297 * 171 / 1000 is 50.8, rounded down 50; 297 * 172 / 1000 is 51.1.
        badness(1000, 171, 0);
        badness(1000, 172, 1);
        badness(1000, -171, 0);
        badness(1000, -172, 1);
        // 297 * 4346 / 1000 is 1290.8, rounded down 1290; 297 * 4347 / 1000 is 1291.1.
        badness(1000, 4346, 8189);
        badness(1000, 4347, 10000);
    }

    /** "297 * t / s if t is not above 7230584; otherwise t / (s / 297) if s is not below 1663497" */
    private static void badnessOfGreatExcesses() {
        // 297 * 7230584 / 1663497 is 1290.9; of 1663496 and 1663498 it rounds down to 1290, too.
        for (int s = 1663496; s <= 1663498; s++) {
            badness(s, 7230583, 8189);
            badness(s, 7230584, 8189);
            badness(s, 7230585, s < 1663497 ? 10000 : 8189);
        }
        badness(1663427, 7230584, 8189);
        badness(1663426, 7230584, 10000);
        // Behind the bound s / 297 is 5601 from 1663497 to 1663793, and 1291 * 5601 is 7230891.
        badness(1663497, 7230890, 8189);
        badness(1663497, 7230891, 10000);
        badness(1663793, 7230891, 10000);
        badness(1663794, 7230891, 8189);
        badness(1, 7230584, 10000);
        badness(1, 7230585, 10000);
        badness(1, 1073741823, 10000);
        badness(1073741823, 1073741823, 100);
        badness(1073741823, -1073741823, 100);
        badness(1073741823, 7230584, 0);
        badness(1073741823, 7230585, 0);
        // 7230584 / 7230584 of 297; 7230585 / 297 is 24345.7, rounded down 24345, and r is 297 still.
        badness(7230584, -7230584, 100);
        badness(7230585, -7230585, 100);
        badness(7230584, -7230585, 1000000);
        // 15000281 / 297 rounded down is 50505, a 297th of this excess; 297 * t / s would be 296.
        badness(15000281, 14999984, 99);
        badness(15000281, 14999985, 100);
    }

    /** "IndexOutOfBoundsException when there is no such box or what." */
    private static void whatThereIsOfABox() {
        run("No such box, no such what", "boxes = 0; of 0 0 ! index; leaf 1 2 3 4; pack along 1 5 0; boxes = 1",
            "of 0 -1 ! index; of 0 11 ! index; of 0 INT_MIN ! index; of 0 INT_MAX ! index; of -1 0 ! index",
            "of 1 0 ! index; of -1 10 ! index; of 1 10 ! index; of INT_MIN 0 ! index; of INT_MAX 0 ! index",
            "of 0 0 = 5; of 0 10 = 1; sizes 0 = 5 3 4; fit 0 = 3 0 0 10000 0; counts 0 = 1 1 1; boxes = 1");
        run("The last of a hundred boxes", "100 * pack along 0 0 0; of 99 8 = 1; of 100 8 ! index; of 99 11 ! index");
    }
}
