/** The boundary cases of promise 9's IllegalStateException: sums that are just sizes, and just no sizes. */
public final class SumBoundaryTest {
    private static final Check CHECK = new Check();
    private static final String[] WAYS = {"along", "below"};
    /** Boxes 0 and 1 have the width 1 and -1. */
    private static final String WIDE = "kern 1; pack along 0 0 0; kern -1; pack along 0 0 0; ";
    /** Boxes 0 and 1 have the height 1 and -1. */
    private static final String HIGH = "kern 1; pack below 0 0 0; kern -1; pack below 0 0 0; ";
    /** Boxes 0 and 1 have the depth 1 and -1. */
    private static final String DEEP = "leaf 0 0 0 1; pack below 0 0 1; leaf 0 0 0 -1; pack below 0 0 0; ";

    public static void main(String[] args) {
        lengthAlong();
        lengthAlongInBetween();
        lengthBelow();
        depthsBelow();
        depthAndWhatComesBehindAreTwo();
        lengthBehindTheGreatestDepth();
        stretchAndShrink();
        ordersAreAddedUpApart();
        heightsLessShifts();
        depthsWithShifts();
        widthsWithShifts();
        onlyTheSumsOfTheWayCount();
        excessToASize();
        lengthByASize();
        CHECK.finish();
    }

    private static void run(String title, String... rows) {
        Run.make(CHECK, title, rows);
    }

    /** The list is packed, and then the box's width and height are these. */
    private static void packed(String title, String list, String pack, String width, String height) {
        run(title, list, "pack " + pack + " = 2; of 2 0 = " + width + "; of 2 1 = " + height + "; items = 0");
    }

    /** The list, of the items given, is not packed, and stays as it is. */
    private static void refused(String title, String list, int items, String pack) {
        run(title, list, "pack " + pack + " ! state; items = " + items + "; boxes = 2",
            "pack " + pack + " ! state; kern 0 = " + items + "; keep 0 = true; kern 5; pack along 0 0 0 = 2",
            "of 2 0 = 5; of 2 9 = 1");
    }

    /** "added up one size behind the other, the length" */
    private static void lengthAlong() {
        String[] more = {"kern 1", "glue 1 0 0 0 0", "leaf 0 1 0 0", "rule 1 0 0", "box 0 0"};
        String[] less = {"kern -1", "glue -1 0 0 0 0", "leaf 0 -1 0 0", "rule -1 0 0", "box 1 0"};
        for (int i = 0; i < more.length; i++) {
            packed("Along, just a size: " + more[i], WIDE + "kern MAX-1; " + more[i], "along 0 0 0", "MAX", "0");
            refused("Along, too great: " + more[i], WIDE + "kern MAX; " + more[i], 2, "along 0 0 0");
            packed("Along, just a size: " + less[i], WIDE + "kern -MAX+1; " + less[i], "along 0 0 0", "-MAX", "0");
            refused("Along, too small: " + less[i], WIDE + "kern -MAX; " + less[i], 2, "along 0 0 0");
            refused("Along, too great in between: " + more[i], WIDE + "kern MAX; " + more[i] + "; kern -1", 3, "along 0 0 0");
            refused("Along, too small in between: " + less[i], WIDE + "kern -MAX; " + less[i] + "; kern 1", 3, "along 0 0 0");
        }
        refused("Along, far too great", WIDE + "99 * kern MAX", 99, "along 0 0 0");
        refused("Along, far too small", WIDE + "99 * kern -MAX", 99, "along 0 0 0");
        refused("Along, so great that an int wraps around", WIDE + "4 * kern MAX; kern 4", 5, "along 0 0 0");
        packed("Along, a running width is 0", WIDE + "kern -MAX; rule RUNNING 0 0", "along 0 0 0", "-MAX", "0");
    }

    /** "added up one size behind the other, the length" */
    private static void lengthAlongInBetween() {
        packed("Along, the same in another order", WIDE + "kern MAX; kern -1; kern 1", "along 0 0 0", "MAX", "0");
        packed("Along, from end to end", WIDE + "kern MAX; kern -MAX; kern -MAX; kern MAX; kern MAX",
            "along 0 0 0", "MAX", "0");
        refused("Along, too great in between, to a size", WIDE + "kern MAX; kern 1; kern -1", 3, "along 1 0 0");
    }

    /** "added up one size behind the other, the length" */
    private static void lengthBelow() {
        String[] more = {"kern 1", "glue 1 0 0 0 0", "leaf 0 0 1 0", "rule 0 1 0", "box 0 0"};
        String[] less = {"kern -1", "glue -1 0 0 0 0", "leaf 0 0 -1 0", "rule 0 -1 0", "box 1 0"};
        for (int i = 0; i < more.length; i++) {
            packed("Below, just a size: " + more[i], HIGH + "kern MAX-1; " + more[i], "below 0 0 0", "0", "MAX");
            refused("Below, too great: " + more[i], HIGH + "kern MAX; " + more[i], 2, "below 0 0 0");
            packed("Below, just a size: " + less[i], HIGH + "kern -MAX+1; " + less[i], "below 0 0 0", "0", "-MAX");
            refused("Below, too small: " + less[i], HIGH + "kern -MAX; " + less[i], 2, "below 0 0 0");
            refused("Below, too great in between: " + more[i], HIGH + "kern MAX; " + more[i] + "; kern -1", 3, "below 0 0 0");
            refused("Below, too small in between: " + less[i], HIGH + "kern -MAX; " + less[i] + "; kern 1", 3, "below 0 0 0");
        }
        packed("Below, a running height is 0", HIGH + "kern -MAX; rule 0 RUNNING 0", "below 0 0 0", "0", "-MAX");
        refused("Below, so great that an int wraps around", HIGH + "4 * leaf 0 0 MAX 0; kern 4", 5, "below 0 0 0");
    }

    /** "for a leaf, box or rule the depth there is and its height are added to the length" */
    private static void depthsBelow() {
        String[] more = {"leaf 0 0 0 1", "rule 0 0 1", "box 0 0"};
        String[] less = {"leaf 0 0 0 -1", "rule 0 0 -1", "box 1 0"};
        String[] behind = {"kern 0", "glue 0 0 0 0 0", "leaf 0 0 0 0", "rule 0 0 0", "rule 0 RUNNING RUNNING"};
        for (int i = 0; i < more.length; i++) {
            for (String last : behind) {
                packed("A depth, just a size: " + more[i], DEEP + "kern MAX-1; " + more[i] + "; " + last,
                    "below 0 0 0", "0", "MAX");
                refused("A depth, too great: " + more[i], DEEP + "kern MAX; " + more[i] + "; " + last, 3, "below 0 0 0");
                packed("A depth, just a size: " + less[i], DEEP + "kern -MAX+1; " + less[i] + "; " + last,
                    "below 0 0 0", "0", "-MAX");
                refused("A depth, too small: " + less[i], DEEP + "kern -MAX; " + less[i] + "; " + last, 3, "below 0 0 0");
            }
        }
        packed("The last depth is not added", DEEP + "kern MAX; leaf 0 0 0 1", "below 0 0 1", "0", "MAX");
        packed("The last depth below 0 is not added", DEEP + "kern -MAX; leaf 0 0 0 -1", "below 0 0 0", "0", "-MAX");
        packed("A running depth is 0", DEEP + "kern -MAX; rule 0 0 RUNNING; kern 0", "below 0 0 0", "0", "-MAX");
        packed("No depth is added along", DEEP + "kern MAX; leaf 0 0 0 1; kern 0", "along 0 0 0", "MAX", "0");
    }

    /** "a depth and a height behind it are two" */
    private static void depthAndWhatComesBehindAreTwo() {
        String[] behind = {"leaf 0 0 -1 0", "rule 0 -1 0", "kern -1", "glue -1 0 0 0 0", "box 1 0"};
        for (String last : behind) {
            refused("A depth, and less behind it, are two: " + last, HIGH + "kern MAX; leaf 0 0 0 1; " + last, 3,
                "below 0 0 0");
        }
        String[] more = {"leaf 0 0 1 0", "rule 0 1 0", "kern 1", "glue 1 0 0 0 0", "box 0 0"};
        for (String last : more) {
            refused("A depth below 0, and more behind it, are two: " + last,
                HIGH + "kern -MAX; leaf 0 0 0 -1; " + last, 3, "below 0 0 0");
        }
        packed("A height, and then its depth, are two: just sizes", HIGH + "kern MAX; leaf 0 0 -1 1; kern 0",
            "below 0 0 0", "0", "MAX");
        refused("A height, and then its depth, are two: the height too great", HIGH + "kern MAX; leaf 0 0 1 -1; kern 0",
            3, "below 0 0 0");
    }

    /** "what is above it is added to the length" */
    private static void lengthBehindTheGreatestDepth() {
        packed("What is above the greatest depth, just a size", DEEP + "kern MAX-1; leaf 0 0 0 1", "below 0 0 0", "0", "MAX");
        refused("What is above the greatest depth, too great", DEEP + "kern MAX; leaf 0 0 0 1", 2, "below 0 0 0");
        refused("What is above the greatest depth, too great by more", DEEP + "kern MAX-1; leaf 0 0 0 2", 2, "below 0 0 0");
        packed("What is above the greatest depth is added at once", DEEP + "kern MAX-1; leaf 0 0 0 2", "below 0 0 1", "0", "MAX");
        packed("A greatest depth of -1, just a size", DEEP + "kern MAX-1", "below 0 0 -1", "0", "MAX");
        refused("A greatest depth of -1, too great", DEEP + "kern MAX", 1, "below 0 0 -1");
        packed("The least greatest depth, just a size", DEEP + "kern 0", "below 0 0 -MAX", "0", "MAX");
        refused("The least greatest depth, too great", DEEP + "kern 1", 1, "below 0 0 -MAX");
        refused("The greatest depth above the least one, too great", DEEP + "leaf 0 0 0 MAX", 1, "below 0 0 -MAX");
        packed("What is above it is more than a size, but the length is one", DEEP + "leaf 0 0 -MAX MAX", "below 0 0 -MAX",
            "0", "MAX");
        refused("Too small before what is above the greatest depth is added", DEEP + "kern -MAX; kern -1", 2, "below 0 0 -1");
        refused("Too great before the excess", DEEP + "kern MAX; leaf 0 0 0 1", 2, "below 1 0 0");
        refused("Too great, by a size that is below 0", DEEP + "kern MAX; leaf 0 0 0 1", 2, "below 2 -1 0");
    }

    /** "the stretch or shrink of an order" */
    private static void stretchAndShrink() {
        for (String way : WAYS) {
            for (int order = 0; order < 4; order++) {
                for (String how : new String[] {" 0 0 0", " 1 0 0", " 2 0 0"}) {
                    String title = "of order " + order + ", " + way + how;
                    packed("Stretch " + title, WIDE + "glue 0 MAX-1 " + order + " 0 0; glue 0 1 " + order + " 0 0",
                        way + how, "0", "0");
                    packed("Shrink " + title, WIDE + "glue 0 0 0 MAX-1 " + order + "; glue 0 0 0 1 " + order,
                        way + how, "0", "0");
                    refused("Stretch " + title, WIDE + "glue 0 MAX " + order + " 0 0; glue 0 1 " + order + " 0 0", 2,
                        way + how);
                    refused("Shrink " + title, WIDE + "glue 0 0 0 MAX " + order + "; glue 0 0 0 1 " + order, 2,
                        way + how);
                }
            }
        }
        refused("Stretch so great that an int wraps around", WIDE + "4 * glue 0 MAX 2 0 0; glue 0 4 2 0 0", 5, "along 0 0 0");
        refused("Shrink so great that an int wraps around", WIDE + "4 * glue 0 0 0 MAX 2; glue 0 0 0 4 2", 5, "along 0 0 0");
        refused("Stretch of an order that is not the box's", WIDE + "2 * glue 0 MAX 0 0 0; glue 0 1 3 0 0", 3, "along 2 1 0");
        refused("Stretch of a box that shrinks", WIDE + "2 * glue 0 MAX 0 1 0", 2, "along 2 -1 0");
        refused("Shrink of a box that stretches", WIDE + "2 * glue 0 1 0 MAX 0", 2, "along 2 1 0");
    }

    /** "the stretch or shrink of an order" */
    private static void ordersAreAddedUpApart() {
        String each = "glue 0 MAX 0 MAX 3; glue 0 MAX 1 MAX 2; glue 0 MAX 2 MAX 1; glue 0 MAX 3 MAX 0; ";
        run("The greatest sum in each order", each + "pack along 2 MAX 0; fit 0 = MAX 3 MAX 0 0",
            each + "pack below 2 -MAX 0; fit 1 = -MAX 3 MAX 0 0", each + "glue 0 1 0 0 0; pack along 2 MAX 0 ! state",
            "keep 4 = true; glue 0 0 0 1 0; pack along 2 MAX 0 ! state; keep 4 = true; pack along 0 0 0 = 2");
    }

    /** "a size of a box in the list with its shift is no size" */
    private static void heightsLessShifts() {
        packed("A height of 1 less -MAX+1", HIGH + "box 0 -MAX+1", "along 0 0 0", "0", "MAX");
        refused("A height of 1 less -MAX", HIGH + "box 0 -MAX", 1, "along 0 0 0");
        packed("A height of -1 less MAX-1", HIGH + "box 1 MAX-1", "along 0 0 0", "0", "0");
        refused("A height of -1 less MAX", HIGH + "box 1 MAX", 1, "along 0 0 0");
        packed("A height of 0 less -MAX", WIDE + "box 0 -MAX", "along 0 0 0", "1", "MAX");
        packed("A height of 0 less MAX", WIDE + "box 0 MAX", "along 0 0 0", "1", "0");
        refused("Another box is too high", HIGH + "leaf 0 0 5 0; box 0 -MAX; box 0 0", 3, "along 0 0 0");
    }

    /** "a size of a box in the list with its shift is no size" */
    private static void depthsWithShifts() {
        run("A depth of 1 and MAX-1", DEEP + "box 0 MAX-1; pack along 0 0 0 = 2; sizes 2 = 0 0 MAX");
        refused("A depth of 1 and MAX", DEEP + "box 0 MAX", 1, "along 0 0 0");
        run("A depth of -1 and -MAX+1", DEEP + "box 1 -MAX+1; pack along 0 0 0 = 2; sizes 2 = 0 MAX-1 0");
        refused("A depth of -1 and -MAX", DEEP + "box 1 -MAX", 1, "along 0 0 0");
        refused("Another box is too deep", DEEP + "leaf 0 0 0 5; box 0 MAX; box 0 0", 3, "along 0 0 0");
    }

    /** "a size of a box in the list with its shift is no size" */
    private static void widthsWithShifts() {
        packed("A width of 1 and MAX-1", WIDE + "box 0 MAX-1", "below 0 0 0", "MAX", "0");
        refused("A width of 1 and MAX", WIDE + "box 0 MAX", 1, "below 0 0 0");
        packed("A width of -1 and -MAX+1", WIDE + "box 1 -MAX+1", "below 0 0 0", "0", "0");
        refused("A width of -1 and -MAX", WIDE + "box 1 -MAX", 1, "below 0 0 0");
        refused("Another box is too wide", WIDE + "leaf 0 5 0 0; box 0 MAX; box 0 0", 3, "below 0 0 0");
    }

    /** "a size of a box in the list with its shift is no size" */
    private static void onlyTheSumsOfTheWayCount() {
        packed("Along, a width and its shift are not added", WIDE + "box 0 MAX", "along 0 0 0", "1", "0");
        packed("Below, a height is not made less by its shift", HIGH + "box 0 -MAX", "below 0 0 0", "0", "1");
        run("Below, a depth and its shift are not added",
            DEEP + "box 0 MAX; pack below 0 0 MAX = 2; sizes 2 = MAX 0 1");
    }

    /** "or the excess is none" */
    private static void excessToASize() {
        for (String way : WAYS) {
            run("The greatest excess, " + way, "kern -1; pack " + way + " 1 MAX-1 0 = 0; of 0 3 = MAX; items = 0");
            refused("An excess too great, " + way, WIDE + "kern -1", 1, way + " 1 MAX 0");
            run("The least excess, " + way, "kern 1; pack " + way + " 1 -MAX+1 0 = 0; of 0 3 = -MAX; items = 0");
            refused("An excess too small, " + way, WIDE + "kern 1", 1, way + " 1 -MAX 0");
            refused("An excess far too great, " + way, WIDE + "kern -MAX", 1, way + " 1 MAX 0");
            refused("An excess far too small, " + way, WIDE + "kern MAX", 1, way + " 1 -MAX 0");
            run("No excess at the ends, " + way, "kern MAX; pack " + way + " 1 MAX 0 = 0; of 0 3 = 0",
                "kern -MAX; pack " + way + " 1 -MAX 0 = 1; of 1 3 = 0");
        }
        refused("An excess too small once the depth is added", DEEP + "leaf 0 0 0 1", 1, "below 1 -MAX 0");
        run("A least excess while the depth is not added",
            "leaf 0 0 0 1; pack below 1 -MAX 1 = 0; sizes 0 = 0 -MAX 1; of 0 3 = -MAX");
    }

    /** "or a size of the box" */
    private static void lengthByASize() {
        packed("By MAX-1, along", WIDE + "kern 1", "along 2 MAX-1 0", "MAX", "0");
        refused("By MAX, along", WIDE + "kern 1", 1, "along 2 MAX 0");
        packed("By -MAX+1, along", WIDE + "kern -1", "along 2 -MAX+1 0", "-MAX", "0");
        refused("By -MAX, along", WIDE + "kern -1", 1, "along 2 -MAX 0");
        packed("By MAX-1, below", WIDE + "kern 1", "below 2 MAX-1 0", "0", "MAX");
        refused("By MAX, below", WIDE + "kern 1", 1, "below 2 MAX 0");
        packed("By -MAX+1, below", WIDE + "kern -1", "below 2 -MAX+1 0", "0", "-MAX");
        refused("By -MAX, below", WIDE + "kern -1", 1, "below 2 -MAX 0");
        packed("By 1, along", WIDE + "kern MAX-1", "along 2 1 0", "MAX", "0");
        for (String way : WAYS) {
            refused("Too great before the excess, " + way, WIDE + "kern MAX; kern 1", 2, way + " 2 -1 0");
            refused("Too small before the excess, " + way, WIDE + "kern -MAX; kern -1", 2, way + " 2 1 0");
        }
        refused("By 1, too great", WIDE + "kern MAX", 1, "along 2 1 0");
        refused("By -1, too small", WIDE + "kern -MAX", 1, "below 2 -1 0");
        packed("Natural, whatever the size", WIDE + "kern MAX", "along 0 MAX 0", "MAX", "0");
        packed("By MAX, from end to end", WIDE + "kern -MAX", "below 2 MAX 0", "0", "0");
    }
}
