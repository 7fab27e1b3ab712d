/** Promises 13 and 14 with ordinary inputs: "A box is LAID out: how many marks there are", and its marks. */
public final class LayTest {
    private static final Check CHECK = new Check();

    public static void main(String[] args) {
        along();
        below();
        within();
        stretchedWithin();
        runningRules();
        runningRulesWithin();
        order();
        whatIsTold();
        CHECK.finish();
    }

    private static void run(String title, String... rows) {
        Run.make(CHECK, title, rows);
    }

    /**
     * "LAID out, with its reference at x, y (y grows downwards): of a box packed along each item comes to x
     * and its place; a leaf or a rule with its reference there at y, a box at y and its shift."
     */
    private static void along() {
        run("Along", "leaf 65 10 7 2; glue 5 1 0 0 0; rule 3 4 5; kern 1; leaf 0 -6 -7 -8; pack along 2 20 0",
            "lay 0 1000 2000 = 3; marked 0 = 65 1000 2000 10 7 2; marked 1 = NONE 1035 2000 3 4 5",
            "marked 2 = 0 1039 2000 -6 -7 -8; lay 0 -30 -40 = 3; marked 0 = 65 -30 -40 10 7 2");
        run("Along, boxes", "leaf 65 10 7 2; pack along 0 0 0; box 0 3; box 0 -4; leaf 66 1 1 1; pack along 0 0 0",
            "lay 1 1000 2000 = 3; marked 0 = 65 1000 2003 10 7 2; marked 1 = 65 1010 1996 10 7 2; marked 2 = 66 1020 2000 1 1 1");
    }

    /**
     * "Of a box packed below, the top being at y less its height: each item comes to the top and its place; a
     * leaf or rule with its height below that, at x; a box likewise, at x and its shift."
     */
    private static void below() {
        run("Below", "leaf 65 10 7 2; glue 5 1 0 0 0; rule 3 4 5; kern 1; leaf 66 -6 -7 -8; pack below 2 20 MAX; of 0 1 = 37",
            "lay 0 1000 2000 = 3; marked 0 = 65 1000 1970 10 7 2; marked 1 = NONE 1000 2001 3 4 5",
            "marked 2 = 66 1000 2000 -6 -7 -8");
        run("Below, boxes", "leaf 65 10 7 2; pack along 0 0 0; box 0 3; box 0 -4; leaf 66 1 1 1; pack below 0 0 1; of 1 1 = 19",
            "lay 1 1000 2000 = 3; marked 0 = 65 1003 1988 10 7 2; marked 1 = 65 996 1997 10 7 2; marked 2 = 66 1000 2000 1 1 1");
        run("Below, a greatest depth", "leaf 65 10 7 2; pack below 0 0 0; of 0 1 = 9; lay 0 0 0 = 1; marked 0 = 65 0 -2 10 7 2");
    }

    /** "A box is laid out so within." */
    private static void within() {
        run("Boxes within boxes", "leaf 1 10 7 2; leaf 2 20 9 3; pack along 0 0 0; leaf 3 30 5 4; box 0 100; leaf 4 30 6 4",
            "pack below 0 0 MAX; sizes 1 = 130 27 4; box 1 -50; leaf 5 1 1 1; box 0 8; pack along 0 0 0; lay 2 1000 2000 = 7",
            "marked 0 = 3 1000 1928 30 5 4; marked 1 = 1 1100 1941 10 7 2; marked 2 = 2 1110 1941 20 9 3",
            "marked 3 = 4 1000 1950 30 6 4; marked 4 = 5 1130 2000 1 1 1; marked 5 = 1 1131 2008 10 7 2",
            "marked 6 = 2 1141 2008 20 9 3; lay 0 0 0 = 2; marked 1 = 2 10 0 20 9 3");
    }

    /** "A box is laid out so within." */
    private static void stretchedWithin() {
        run("Glue stretches in both boxes", "leaf 1 1 1 1; glue 10 1 0 0 0; leaf 2 1 1 1; pack along 2 4 0",
            "glue 100 1 0 0 0; box 0 0; glue 100 3 0 0 0; box 0 0; pack along 2 80 0; places 1 = 0 120 136 296",
            "lay 1 1000 0 = 4; mark 0 1 = 1120; mark 1 1 = 1135; mark 2 1 = 1296; mark 3 1 = 1311");
        run("Along within below, and below within along", "leaf 1 1 5 2; glue 10 1 0 0 0; leaf 2 1 5 2; pack below 2 4 2",
            "of 0 1 = 26; box 0 6; glue 10 1 0 4 0; box 0 -6; pack along 2 -2 0; sizes 1 = 10 32 8; glue 20 1 0 0 0; box 1 7",
            "pack below 2 5 8; of 2 1 = 57; lay 2 100 1000 = 4; marked 0 = 1 107 985 1 5 2; marked 1 = 2 107 1006 1 5 2",
            "marked 2 = 1 116 973 1 5 2; marked 3 = 2 116 994 1 5 2");
    }

    /**
     * "A rule's running width (packed below) is the box's width, its running height and depth (packed along)
     * those of the box; other running sizes are 0."
     */
    private static void runningRules() {
        run("Running rules along", "leaf 1 10 7 2; rule 4 RUNNING RUNNING; rule 5 RUNNING 1; rule 6 -1 RUNNING",
            "rule RUNNING 7 2; pack along 2 50 0; lay 0 0 0 = 4; marked 1 = NONE 10 0 4 7 2; marked 2 = NONE 14 0 5 7 1",
            "marked 3 = NONE 19 0 6 -1 2");
        run("Running rules below", "leaf 1 10 7 2; rule RUNNING 4 1; rule 6 RUNNING 3; rule 8 5 RUNNING; rule 8 RUNNING RUNNING",
            "pack below 0 0 MAX; lay 0 0 22 = 4; marked 1 = NONE 0 13 10 4 1; marked 2 = NONE 0 14 6 0 3",
            "marked 3 = NONE 0 22 8 5 0; box 0 30; rule RUNNING 4 0; pack below 0 0 MAX; lay 1 0 0 = 5",
            "marked 4 = NONE 0 0 40 4 0");
    }

    /** "A box is laid out so within." */
    private static void runningRulesWithin() {
        run("A rule within a box runs as far as that box", "leaf 1 10 7 2; rule RUNNING 1 1; pack below 0 0 1; of 0 1 = 10",
            "leaf 2 1 3 4; rule 1 RUNNING RUNNING; pack along 0 0 0; box 0 0; box 1 0; rule 2 RUNNING RUNNING; leaf 3 9 50 60",
            "pack along 0 0 0; lay 2 0 0 = 6; marked 1 = NONE 0 0 10 1 1; marked 3 = NONE 11 0 1 3 4",
            "marked 4 = NONE 12 0 2 50 60; box 0 5; box 1 0; rule RUNNING 1 0; leaf 3 99 1 0; pack below 0 0 0; lay 3 0 0 = 6",
            "mark 1 3 = 10; mark 3 4 = 3; mark 3 5 = 4; mark 4 3 = 99");
    }

    /**
     * "All leaves, and all rules with a width above 0 and a height and depth that are above 0 together, are
     * told as MARKS, in the order in which they come."
     */
    private static void order() {
        run("In the order in which they come", "leaf 1 -10 0 0; rule 1 1 1; leaf 2 -10 0 0; pack along 0 0 0; leaf 3 0 0 0",
            "box 0 0; kern 5; rule 0 1 1; leaf 4 0 0 0; glue 5 0 0 0 0; rule 1 1 -1; box 0 0; rule 2 2 2; leaf 3 0 0 0",
            "pack below 0 0 0; lay 1 0 0 = 10; mark 0 0 = 3; mark 1 0 = 1; mark 2 0 = NONE; mark 3 0 = 2; mark 4 0 = 4",
            "mark 5 0 = 1; mark 6 0 = NONE; mark 7 0 = 2; mark 8 0 = NONE; mark 9 0 = 3; mark 2 3 = 1; mark 8 3 = 2");
    }

    /** "Of mark i: 0 its tag, NONE for a rule; 1 its x, 2 its y; 3 its width, 4 height, 5 depth." */
    private static void whatIsTold() {
        run("All that is told of a mark", "kern 10; leaf 65 1 2 3; rule 4 5 6; pack along 0 0 0; lay 0 20 40 = 2; mark 0 0 = 65",
            "mark 0 1 = 30; mark 0 2 = 40; mark 0 3 = 1; mark 0 4 = 2; mark 0 5 = 3; mark 1 0 = NONE; mark 1 1 = 31",
            "mark 1 2 = 40; mark 1 3 = 4; mark 1 4 = 5; mark 1 5 = 6");
    }
}
