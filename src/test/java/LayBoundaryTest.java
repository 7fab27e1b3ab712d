/** The boundary cases of promises 13 and 14: what is told as a mark, how many there may be, and where. */
public final class LayBoundaryTest {
    private static final Check CHECK = new Check();
    /** Boxes with 10, 100 and 1000 leaves. */
    private static final String LEAVES = "10 * leaf 9 1 1 0; pack along 0 0 0; 10 * box 0 0; pack below 0 0 0;"
        + "10 * box 1 0; pack along 0 0 0 = 2";
    /** Boxes with 10, 110, 1110 and 11110 items in all, and none of them a mark. */
    private static final String KERNS = "10 * kern 0; pack along 0 0 0; 10 * box 0 0; pack below 0 0 0;"
        + "10 * box 1 0; pack along 0 0 0; 10 * box 2 0; pack along 0 0 0 = 3";

    public static void main(String[] args) {
        noSuchBoxOrSize();
        noSuchMark();
        rulesToldOrNot();
        runningRulesToldOrNot();
        leavesAreAlwaysTold();
        aThousandMarks();
        aThousandMarksWithRules();
        twentyThousandItems();
        marksOfTheLastLayoutAlone();
        shifts();
        ends();
        CHECK.finish();
    }

    private static void run(String title, String... rows) {
        Run.make(CHECK, title, rows);
    }

    /**
     * "IndexOutOfBoundsException when there is no such box; IllegalArgumentException when x or y is no
     * size."
     */
    private static void noSuchBoxOrSize() {
        run("No such box", "lay 0 0 0 ! index; leaf 7 1 2 3; pack along 0 0 0; lay 0 4 5 = 1; lay -1 0 0 ! index",
            "lay 1 0 0 ! index; lay INT_MIN 0 0 ! index; lay INT_MAX 0 0 ! index; marked 0 = 7 4 5 1 2 3; mark 1 0 ! index",
            "pack along 0 0 0 = 1; lay 1 0 0 = 0; mark 0 0 ! index; lay 2 0 0 ! index");
        for (String n : new String[] {"RUNNING", "-MAX-2", "MAX+1", "MAX+2", "INT_MIN", "INT_MAX"}) {
            run("x or y is no size: " + n, "leaf 7 1 2 3; pack along 0 0 0; 2 * leaf 8 1 2 3; pack along 0 0 0; lay 0 4 5 = 1",
                "lay 1 " + n + " 0 ! argument; lay 1 0 " + n + " ! argument; marked 0 = 7 4 5 1 2 3; mark 1 0 ! index",
                "lay 1 " + n + " " + n + " ! argument; lay 1 0 0 = 2; mark 0 0 = 8");
        }
        run("x and y at their ends", "leaf 7 1 2 3; pack along 0 0 0; lay 0 MAX -MAX = 1; marked 0 = 7 MAX -MAX 1 2 3",
            "lay 0 -MAX MAX = 1; marked 0 = 7 -MAX MAX 1 2 3");
    }

    /** "IndexOutOfBoundsException when there is no such mark or what." */
    private static void noSuchMark() {
        run("No such mark or what", "mark 0 0 ! index; leaf 7 1 2 3; rule 4 5 6; pack along 0 0 0; mark 0 0 ! index",
            "lay 0 8 9 = 2; mark -1 0 ! index; mark -1 5 ! index; mark 2 0 ! index; mark 2 -1 ! index; mark 0 6 ! index",
            "mark 0 -1 ! index; mark 1 -1 ! index; mark 1 6 ! index; mark 0 INT_MIN ! index; mark 0 INT_MAX ! index",
            "mark INT_MIN 0 ! index; mark INT_MAX 5 ! index; marked 0 = 7 8 9 1 2 3; marked 1 = NONE 9 9 4 5 6");
        // Six times each of these wraps around to 2 or to 4.
        run("No mark so far off that six times it wraps around", "leaf 7 1 2 3; pack along 0 0 0; lay 0 0 0 = 1",
            "mark 715827883 0 ! index; mark -715827882 0 ! index; mark 1431655766 0 ! index; mark 0 0 = 7");
        run("An empty box has no marks", "pack along 0 0 0; lay 0 0 0 = 0; mark 0 0 ! index");
    }

    /** "all rules with a width above 0 and a height and depth that are above 0 together" */
    private static void rulesToldOrNot() {
        for (String way : new String[] {"along", "below"}) {
            String pack = "; pack " + way + " 0 0 MAX; lay ";
            run("A rule with a width above 0, " + way, "rule -1 2 2" + pack + "0 0 0 = 0; mark 0 0 ! index",
                "rule 0 2 2" + pack + "1 0 0 = 0; mark 0 0 ! index", "rule 1 2 2" + pack + "2 0 0 = 1; mark 0 3 = 1",
                "rule -MAX 2 2" + pack + "3 0 0 = 0; rule MAX 2 2" + pack + "4 0 0 = 1; mark 0 3 = MAX");
            run("A height and depth above 0 together, " + way, "rule 1 5 -6" + pack + "0 0 0 = 0; mark 0 0 ! index",
                "rule 1 5 -5" + pack + "1 0 0 = 0; mark 0 0 ! index", "rule 1 5 -4" + pack + "2 0 0 = 1; mark 0 5 = -4",
                "rule 1 -6 5" + pack + "3 0 0 = 0; rule 1 -5 5" + pack + "4 0 0 = 0; rule 1 -4 5" + pack + "5 0 0 = 1",
                "rule 1 0 0" + pack + "6 0 0 = 0; rule 1 1 0" + pack + "7 0 0 = 1; rule 1 0 1" + pack + "8 0 0 = 1",
                "rule 1 0 -1" + pack + "9 0 0 = 0; rule 1 -1 0" + pack + "10 0 0 = 0");
            run("Heights and depths at their ends, " + way, "rule 1 MAX MAX" + pack + "0 0 0 = 1; mark 0 4 = MAX",
                "mark 0 5 = MAX; rule 1 -MAX -MAX" + pack + "1 0 0 = 0; rule 1 MAX -MAX" + pack + "2 0 0 = 0",
                "rule 1 MAX -MAX+1" + pack + "3 0 0 = 1; rule 1 -MAX MAX" + pack + "4 0 0 = 0");
        }
    }

    /**
     * "A rule's running width (packed below) is the box's width, its running height and depth (packed
     * along) those of the box; other running sizes are 0."
     */
    private static void runningRulesToldOrNot() {
        run("Below, a running width is the box's", "rule RUNNING 1 1; pack below 0 0 0; lay 0 0 0 = 0",
            "rule RUNNING 1 1; rule 1 0 0; pack below 0 0 0; lay 1 0 0 = 1; mark 0 3 = 1; rule RUNNING 1 1; leaf 8 -1 0 0",
            "pack below 0 0 0; lay 2 0 0 = 1; mark 0 0 = 8; rule 3 0 0; rule RUNNING 1 1; pack below 0 0 0; lay 3 0 0 = 1",
            "mark 0 3 = 3");
        run("Below, a running height and depth are 0", "leaf 8 1 5 5; rule 1 RUNNING RUNNING; pack below 0 0 0; lay 0 0 0 = 1",
            "leaf 8 1 5 5; rule 1 RUNNING 1; pack below 0 0 1; lay 1 0 0 = 2; marked 1 = NONE 0 0 1 0 1",
            "leaf 8 1 5 5; rule 1 1 RUNNING; pack below 0 0 0; lay 2 0 0 = 2; marked 1 = NONE 0 0 1 1 0");
        run("Below, a running height and depth are 0, whatever the box's", "rule 1 4 RUNNING; rule 2 RUNNING 5; leaf 8 1 2 3",
            "pack below 0 0 3; sizes 0 = 2 11 3; lay 0 0 11 = 3; marked 0 = NONE 0 4 1 4 0; marked 1 = NONE 0 4 2 0 5",
            "rule 1 RUNNING RUNNING; leaf 8 1 2 3; pack below 0 0 3; sizes 1 = 1 2 3; lay 1 0 0 = 1; mark 0 0 = 8");
        run("Along, a running height and depth are the box's", "rule 1 RUNNING RUNNING; pack along 0 0 0; lay 0 0 0 = 0",
            "rule 1 RUNNING RUNNING; rule 0 1 0; pack along 0 0 0; lay 1 0 0 = 1; mark 0 4 = 1; mark 0 5 = 0",
            "rule 1 RUNNING RUNNING; rule 0 0 1; pack along 0 0 0; lay 2 0 0 = 1; mark 0 4 = 0; mark 0 5 = 1",
            "rule 1 RUNNING -3; leaf 8 0 3 0; pack along 0 0 0; lay 3 0 0 = 1; rule 1 RUNNING -3; leaf 8 0 4 0",
            "pack along 0 0 0; lay 4 0 0 = 2; mark 0 4 = 4; mark 0 5 = -3");
        run("Along, a running width is 0", "rule RUNNING 1 1; leaf 8 9 9 9; pack along 0 0 0; lay 0 0 0 = 1; mark 0 0 = 8");
        run("The running sizes are those of the box when it is packed to a size",
            "rule 1 RUNNING RUNNING; leaf 8 1 2 3; pack along 1 50 0; lay 0 0 0 = 2; marked 0 = NONE 0 0 1 2 3",
            "rule RUNNING 1 1; leaf 8 4 2 3; pack below 1 50 0; lay 1 0 0 = 2; marked 0 = NONE 0 -49 4 1 1");
    }

    /** "All leaves" */
    private static void leavesAreAlwaysTold() {
        for (String way : new String[] {"along", "below"}) {
            run("Leaves without a size, and below 0, " + way, "leaf 0 0 0 0; leaf 1 -1 -1 -1; leaf 2 1 1 -1; leaf 3 0 1 1",
                "pack " + way + " 0 0 0; lay 0 0 0 = 4; mark 0 0 = 0; mark 1 0 = 1; mark 2 0 = 2; mark 3 0 = 3");
        }
    }

    /** "NONE when there would be more than 1000" */
    private static void aThousandMarks() {
        run("999 marks", LEAVES, "9 * box 1 0; 9 * box 0 0; 8 * leaf 9 1 1 0; leaf 8 1 1 0; pack along 0 0 0",
            "lay 3 0 0 = 999; mark 998 0 = 8; mark 999 0 ! index");
        run("1000 marks", LEAVES, "9 * box 1 0; 9 * box 0 0; 9 * leaf 9 1 1 0; leaf 8 1 1 0; pack along 0 0 0",
            "lay 3 0 0 = 1000; mark 999 0 = 8; mark 1000 0 ! index; lay 2 0 0 = 1000; mark 999 0 = 9");
        run("1001 marks", LEAVES, "9 * box 1 0; 9 * box 0 0; 11 * leaf 8 1 1 0; pack along 0 0 0; lay 0 0 0 = 10",
            "lay 3 0 0 = NONE; mark 0 0 ! index; mark 999 0 ! index; mark 1000 0 ! index; lay 0 0 0 = 10; mark 9 0 = 9");
        run("1001 marks, the last within a box", LEAVES, "leaf 8 1 1 0; box 2 0; pack along 0 0 0; lay 3 0 0 = NONE",
            "mark 0 0 ! index; lay 2 0 0 = 1000");
        run("1001 marks, and much behind them", LEAVES, "2 * box 2 0; pack below 0 0 0; lay 3 0 0 = NONE; mark 0 0 ! index",
            "box 3 0; pack along 0 0 0; lay 4 0 0 = NONE; mark 0 0 ! index");
    }

    /** "NONE when there would be more than 1000" */
    private static void aThousandMarksWithRules() {
        run("1000 leaves and a rule that is told", LEAVES, "box 2 0; rule 1 1 0; pack along 0 0 0; lay 3 0 0 = NONE",
            "mark 0 0 ! index");
        run("1000 leaves and rules that are not told", LEAVES, "rule 0 1 0; box 2 0; rule 0 1 0; rule 1 0 0; rule 1 1 -1",
            "kern 1; glue 1 0 0 0 0; pack along 0 0 0; lay 3 0 0 = 1000; mark 999 0 = 9");
        run("1000 marks, the last a rule", LEAVES, "9 * box 1 0; 9 * box 0 0; 9 * leaf 9 1 1 0; rule 1 1 0; pack along 0 0 0",
            "lay 3 0 0 = 1000; mark 999 0 = NONE; mark 998 0 = 9; mark 1000 0 ! index");
    }

    /** "or the box has more than 20000 items in all, and then there are none" */
    private static void twentyThousandItems() {
        run("19999 in all", KERNS, "box 3 0; 8 * box 2 0; pack along 0 0 0; of 4 10 = 19999; lay 4 0 0 = 0");
        run("20000 in all", KERNS, "box 3 0; 8 * box 2 0; leaf 8 1 2 3; pack along 0 0 0; of 4 10 = 20000",
            "lay 4 5 6 = 1; marked 0 = 8 5 6 1 2 3");
        run("20001 in all", KERNS, "leaf 8 1 2 3; pack along 0 0 0; lay 4 0 0 = 1; box 3 0; 8 * box 2 0; leaf 8 1 2 3; kern 0",
            "pack along 0 0 0; of 5 10 = 20001; lay 5 5 6 = NONE; mark 0 0 ! index; lay 4 0 0 = 1; mark 0 0 = 8");
        run("20001 in all, and no marks", KERNS, "box 3 0; 8 * box 2 0; 2 * kern 0; pack along 0 0 0; of 4 10 = 20001",
            "lay 4 0 0 = NONE; mark 0 0 ! index");
        run("A million in all", KERNS, "10 * box 3 0; pack along 0 0 0; 10 * box 4 0; leaf 8 1 2 3; pack along 0 0 0",
            "of 5 10 = 1000000; lay 5 0 0 = NONE; mark 0 0 ! index");
    }

    /** "A box is LAID out: how many marks there are" */
    private static void marksOfTheLastLayoutAlone() {
        run("Each layout tells its own marks", "3 * leaf 1 1 1 1; pack along 0 0 0; leaf 2 1 1 1; pack along 0 0 0",
            "pack along 0 0 0; lay 0 0 0 = 3; lay 1 0 0 = 1; mark 0 0 = 2; mark 1 0 ! index; lay 2 0 0 = 0; mark 0 0 ! index",
            "lay 0 0 0 = 3; mark 2 0 = 1; mark 3 0 ! index; lay 0 0 0 = 3; mark 2 0 = 1; mark 3 0 ! index");
        run("Other calls leave the marks", "leaf 1 2 3 4; pack along 0 0 0; lay 0 5 6 = 1; leaf 7 7 7 7; keep 0 = true",
            "leaf 8 8 8 8; pack below 0 0 0; of 1 0 = 8; place 1 0 = 0; marked 0 = 1 5 6 2 3 4; mark 1 0 ! index");
    }

    /** "a box at y and its shift" */
    private static void shifts() {
        String leaf = "leaf 8 10 7 2; pack along 0 0 0; ";
        run("Along, a box comes to y and its shift", leaf + "kern 5; box 0 -1; box 0 0; box 0 1; pack along 0 0 0",
            "lay 1 100 200 = 3; marked 0 = 8 105 199 10 7 2; marked 1 = 8 115 200 10 7 2; marked 2 = 8 125 201 10 7 2");
        run("Below, a box comes to x and its shift", leaf + "kern 5; box 0 -1; box 0 0; box 0 1; pack below 0 0 2",
            "of 1 1 = 30; lay 1 100 200 = 3; marked 0 = 8 99 182 10 7 2; marked 1 = 8 100 191 10 7 2",
            "marked 2 = 8 101 200 10 7 2");
        run("A shift at its ends", "leaf 8 0 0 0; pack along 0 0 0; box 0 MAX; box 0 -MAX; pack along 0 0 0; lay 1 0 MAX = 2",
            "mark 0 2 = 2147483646; mark 1 2 = 0; lay 1 0 -MAX = 2; mark 0 2 = 0; mark 1 2 = -2147483646",
            "box 0 MAX; box 0 -MAX; pack below 0 0 0; lay 2 MAX 0 = 2; mark 0 1 = 2147483646; mark 1 1 = 0",
            "lay 2 -MAX 0 = 2; mark 0 1 = 0; mark 1 1 = -2147483646");
    }

    /** "each item comes to x and its place" */
    private static void ends() {
        run("x above the ints", "glue 0 1 0 0 0; kern MAX; leaf 7 -MAX 0 0; pack along 2 MAX 0; place 0 2 = 2147483646",
            "lay 0 MAX 0 = 1; mark 0 1 = 3221225469; lay 0 1 0 = 1; mark 0 1 = 2147483647; lay 0 2 0 = 1; mark 0 1 = 2147483648");
        run("x below the ints", "glue 0 0 0 MAX 0; kern -MAX; leaf 7 MAX 0 0; pack along 2 -MAX 0; place 0 2 = -2147483646",
            "lay 0 -MAX 0 = 1; mark 0 1 = -3221225469; lay 0 -2 0 = 1; mark 0 1 = -2147483648; lay 0 -3 0 = 1",
            "mark 0 1 = -2147483649");
        run("y above the ints", "kern MAX; leaf 7 0 0 0; kern -MAX; kern -MAX; pack below 0 0 0; of 0 1 = -MAX",
            "lay 0 0 MAX = 1; mark 0 2 = 3221225469; lay 0 0 1 = 1; mark 0 2 = 2147483647; lay 0 0 2 = 1; mark 0 2 = 2147483648");
        run("y below the ints", "kern -MAX; leaf 7 0 0 0; kern MAX; kern MAX; pack below 0 0 0; of 0 1 = MAX",
            "lay 0 0 -MAX = 1; mark 0 2 = -3221225469; lay 0 0 -2 = 1; mark 0 2 = -2147483648; lay 0 0 -3 = 1",
            "mark 0 2 = -2147483649");
        run("Farther with every box within a box", "kern MAX; leaf 7 0 0 0; kern -MAX; pack along 0 0 0",
            "kern MAX; box 0 0; kern -MAX; pack along 0 0 0; kern MAX; box 1 0; kern -MAX; pack along 0 0 0",
            "kern MAX; box 2 0; kern -MAX; pack along 0 0 0; kern MAX; box 3 0; kern -MAX; pack along 0 0 0",
            "kern MAX; box 4 0; kern -MAX; pack along 0 0 0; kern MAX; box 5 0; kern -MAX; pack along 0 0 0",
            "kern MAX; box 6 0; kern -MAX; pack along 0 0 0; kern MAX; box 7 0; kern -MAX; pack along 0 0 0",
            "kern MAX; box 8 0; kern -MAX; pack along 0 0 0; of 9 8 = 10; lay 9 MAX 0 = 1; mark 0 1 = 11811160053",
            "mark 0 2 = 0");
    }
}
