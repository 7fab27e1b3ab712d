import java.util.ArrayList;
import java.util.List;

/** The boundary cases of promises 1 to 8: sizes and their ends, tags, orders, the list's 100 items. */
public final class ListBoundaryTest {
    private static final Check CHECK = new Check();
    private static final String[] SIZES = {"-MAX", "-MAX+1", "-1", "0", "1", "MAX-1", "MAX"};
    private static final String[] NO_SIZES = {"-MAX-2", "-MAX-3", "MAX+1", "MAX+2", "INT_MIN", "INT_MAX"};
    private static final String[] ONE_OF_EACH = {
        "leaf 0 0 0 0", "rule 0 0 0", "glue 0 0 0 0 0", "kern 0", "box 0 0"};

    public static void main(String[] args) {
        aNewObject();
        sizesOfItems();
        runningSizes();
        sizesNotBelowZero();
        tags();
        orders();
        endsAreHeldExactly();
        numbersOfBoxes();
        aHundredItems();
        keepOfNone();
        keepOfSome();
        keepOfAHundred();
        theLastCalls();
        CHECK.finish();
    }

    private static void run(String title, String... rows) {
        Run.make(CHECK, title, rows);
    }

    private static String[] and(String[] some, String... more) {
        List<String> all = new ArrayList<>(List.of(some));
        all.addAll(List.of(more));
        return all.toArray(new String[0]);
    }

    /** The call with each of the values in the place of its question mark, in one run. */
    private static void argument(String call, String[] taken, String[] refused) {
        List<String> rows = new ArrayList<>();
        rows.add("pack along 0 0 0");
        for (int i = 0; i < taken.length; i++) {
            rows.add(call.replace("?", taken[i]) + " = " + i);
            rows.add("items = " + (i + 1));
            for (String value : refused) {
                rows.add(call.replace("?", value) + " ! argument");
            }
            rows.add("items = " + (i + 1));
        }
        run(call, rows.toArray(new String[0]));
    }

    /** "No boxes, an empty list, no marks." */
    private static void aNewObject() {
        run("No boxes, an empty list, no marks",
            "items = 0; boxes = 0; keep 0 = true; keep 1 = false; box 0 0 ! index; of 0 0 ! index",
            "place 0 0 ! index; lay 0 0 0 ! index; mark 0 0 ! index; items = 0; boxes = 0");
        run("The first box, of an empty list",
            "pack along 0 0 0 = 0; boxes = 1; items = 0; mark 0 0 ! index; lay 0 0 0 = 0; mark 0 0 ! index");
    }

    /**
     * "SIZES are ints from -1073741823 to 1073741823."; of a leaf "or one of the others is no size", of glue
     * "IllegalArgumentException when width is no size", of a kern "IllegalArgumentException when it is no
     * size", of a box "IllegalArgumentException when shift is no size"
     */
    private static void sizesOfItems() {
        String[] refused = and(NO_SIZES, "RUNNING");
        argument("leaf 0 ? 0 0", SIZES, refused);
        argument("leaf 0 0 ? 0", SIZES, refused);
        argument("leaf 0 0 0 ?", SIZES, refused);
        argument("glue ? 0 0 0 0", SIZES, refused);
        argument("kern ?", SIZES, refused);
        argument("box 0 ?", SIZES, refused);
    }

    /** "IllegalArgumentException when one of them is neither a size nor RUNNING" */
    private static void runningSizes() {
        String[] taken = and(SIZES, "RUNNING");
        argument("rule ? 0 0", taken, NO_SIZES);
        argument("rule 0 ? 0", taken, NO_SIZES);
        argument("rule 0 0 ?", taken, NO_SIZES);
        argument("rule ? RUNNING RUNNING", taken, NO_SIZES);
    }

    /** "stretch or shrink no size or below 0" */
    private static void sizesNotBelowZero() {
        String[] taken = {"0", "1", "MAX-1", "MAX"};
        String[] refused = and(NO_SIZES, "RUNNING", "-1", "-2", "-MAX");
        argument("glue 0 ? 0 0 0", taken, refused);
        argument("glue 0 0 0 ? 0", taken, refused);
    }

    /** "IllegalArgumentException when tag is not 0 .. 65535" */
    private static void tags() {
        String[] refused = {"-1", "-2", "65536", "65537", "131072", "INT_MIN", "INT_MAX"};
        argument("leaf ? 0 0 0", new String[] {"0", "1", "65534", "65535"}, refused);
    }

    /** "or an order is not 0 .. 3" */
    private static void orders() {
        String[] taken = {"0", "1", "2", "3"};
        String[] refused = {"-1", "-2", "4", "5", "INT_MIN", "INT_MAX"};
        argument("glue 0 1 ? 1 0", taken, refused);
        argument("glue 0 1 0 1 ?", taken, refused);
    }

    /** "SIZES are ints from -1073741823 to 1073741823." */
    private static void endsAreHeldExactly() {
        run("The greatest tag and sizes of a leaf",
            "leaf 65535 MAX MAX MAX = 0; pack along 0 0 0 = 0; sizes 0 = MAX MAX MAX",
            "lay 0 0 0 = 1; marked 0 = 65535 0 0 MAX MAX MAX");
        run("The least tag and sizes of a leaf",
            "leaf 0 -MAX -MAX -MAX = 0; pack along 0 0 0 = 0; sizes 0 = -MAX 0 0",
            "lay 0 0 0 = 1; marked 0 = 0 0 0 -MAX -MAX -MAX");
        run("The greatest sizes of a rule",
            "rule MAX MAX MAX = 0; pack along 0 0 0 = 0; sizes 0 = MAX MAX MAX",
            "lay 0 0 0 = 1; marked 0 = NONE 0 0 MAX MAX MAX");
        run("The least size is not the running one: a rule",
            "leaf 0 0 5 7; rule -MAX 6 6; rule 1 -MAX MAX; rule 1 MAX -MAX; pack along 0 0 0 = 0",
            "sizes 0 = -MAX+2 MAX MAX; lay 0 0 0 = 1");
        run("Glue's ends",
            "glue MAX MAX 3 MAX 3; pack along 2 -1 0; sizes 0 = MAX-1 0 0; fit 0 = -1 3 MAX 0 0",
            "glue -MAX MAX 3 MAX 0; pack along 2 1 0; sizes 1 = -MAX+1 0 0; fit 1 = 1 3 MAX 0 0");
        run("A kern's ends", "kern MAX; pack along 0 0 0; kern -MAX; pack along 0 0 0; of 0 0 = MAX; of 1 0 = -MAX");
        run("A shift's ends", "pack along 0 0 0; box 0 MAX; pack along 0 0 0; sizes 1 = 0 0 MAX",
            "box 0 -MAX; pack along 0 0 0; sizes 2 = 0 MAX 0; box 0 MAX; pack below 0 0 0; sizes 3 = MAX 0 0");
    }

    /** "IndexOutOfBoundsException when there is no such box" */
    private static void numbersOfBoxes() {
        run("No such box, of one",
            "kern 7; pack along 0 0 0 = 0; box -1 0 ! index; box 1 0 ! index; box 0 0 = 0; items = 1",
            "box INT_MIN 0 ! index; box INT_MAX 0 ! index; items = 1; pack along 0 0 0 = 1; of 1 0 = 7");
        run("The box that is packed next is none yet",
            "box 0 0 ! index; pack along 0 0 0 = 0; box 0 0 = 0; box 1 0 ! index; pack along 0 0 0 = 1",
            "box 1 0 = 0; box 2 0 ! index");
        run("No such box, of a hundred",
            "99 * pack along 0 0 0; kern 7; pack along 0 0 0 = 99; box 99 0 = 0; box 100 0 ! index",
            "box -1 0 ! index; items = 1");
    }

    /** "UnsupportedOperationException when there are 100 items.", "UnsupportedOperationException as for leaf." */
    private static void aHundredItems() {
        for (String item : ONE_OF_EACH) {
            run("There are 100 items: " + item,
                "pack along 0 0 0; 98 * kern 1; items = 98; " + item + " = 98; items = 99; " + item + " = 99",
                "items = 100; " + item + " ! too much; items = 100; " + item + " ! too much",
                "keep 99 = true; items = 99; " + item + " = 99; " + item + " ! too much",
                "pack along 0 0 0 = 1; of 1 9 = 100; of 1 0 = 98; items = 0; " + item + " = 0");
        }
        run("There are 100 items, and the first and the last of them are told",
            "leaf 1 1 1 1; 98 * kern 1; leaf 2 1 1 1 = 99; leaf 3 1 1 1 ! too much; pack along 0 0 0; lay 0 0 0 = 2",
            "marked 0 = 1 0 0 1 1 1; marked 1 = 2 99 0 1 1 1");
        run("There are 100 items, of all kinds",
            "pack along 0 0 0; 20 * leaf 1 1 1 1; 20 * rule 1 1 1; 20 * glue 1 1 0 1 0; 20 * kern 1",
            "20 * box 0 0; items = 100; leaf 0 5 5 5 ! too much; rule 5 5 5 ! too much",
            "glue 5 5 1 5 1 ! too much; kern 5 ! too much; box 0 5 ! too much",
            "pack along 2 4 0 = 1; sizes 1 = 84 1 1; fit 1 = 4 0 20 1 0; counts 1 = 2 100 100");
    }

    /** "False when n is negative, or it has not so many." */
    private static void keepOfNone() {
        run("keep of an empty list",
            "keep -1 = false; keep 0 = true; keep 1 = false; items = 0; keep INT_MIN = false",
            "keep INT_MAX = false; items = 0; kern 3 = 0; items = 1");
        run("keep of a list that has been packed",
            "2 * kern 3; pack along 0 0 0; keep 1 = false; keep 2 = false; keep -1 = false; keep 0 = true",
            "items = 0; pack along 0 0 0 = 1; sizes 1 = 0 0 0; sizes 0 = 6 0 0; of 0 9 = 2");
    }

    /** "False when n is negative, or it has not so many." */
    private static void keepOfSome() {
        run("n is negative", "2 * kern 3; keep -1 = false; items = 2; keep INT_MIN = false; items = 2",
            "kern 5 = 2; pack along 0 0 0; of 0 0 = 11; places 0 = 0 3 6");
        run("It has not so many", "2 * kern 3; keep 3 = false; items = 2; keep INT_MAX = false; items = 2",
            "kern 5 = 2; pack along 0 0 0; of 0 0 = 11; places 0 = 0 3 6");
        run("It has just so many", "kern 3; kern 4; keep 2 = true; items = 2; kern 5 = 2",
            "pack along 0 0 0; of 0 0 = 12; places 0 = 0 3 7");
        run("One less", "kern 3; kern 4; keep 1 = true; items = 1; keep 2 = false; items = 1; kern 5 = 1",
            "pack along 0 0 0; of 0 0 = 8; places 0 = 0 3");
        run("None", "kern 3; kern 4; keep 0 = true; items = 0; keep 1 = false; kern 5 = 0",
            "pack along 0 0 0; of 0 0 = 5; places 0 = 0; of 0 9 = 1");
        run("A packed box keeps its own items",
            "leaf 1 3 0 0; leaf 2 4 0 0; pack along 0 0 0; leaf 3 50 0 0; leaf 4 60 0 0; keep 0 = true",
            "lay 0 0 0 = 2; mark 0 0 = 1; mark 1 0 = 2; mark 1 1 = 3; of 0 9 = 2");
        run("A packed box keeps its own items, a hundred", "100 * leaf 1 1 1 1; pack along 0 0 0; 100 * leaf 2 3 3 3",
            "lay 0 0 0 = 100; marked 0 = 1 0 0 1 1 1; marked 99 = 1 99 0 1 1 1; pack along 0 0 0; lay 0 0 0 = 100",
            "mark 99 0 = 1; lay 1 0 0 = 100; mark 99 0 = 2");
    }

    /** "False when n is negative, or it has not so many." */
    private static void keepOfAHundred() {
        run("keep of 100 items",
            "100 * kern 1; keep 101 = false; items = 100; keep 100 = true; items = 100; keep 99 = true",
            "items = 99; keep 100 = false; items = 99; kern 1 = 99; kern 1 ! too much; keep -1 = false",
            "items = 100; keep 1 = true; items = 1; keep 0 = true; items = 0; keep 1 = false; kern 1 = 0");
    }

    /** "An object is used for at most 512 calls after it has been made" */
    private static void theLastCalls() {
        run("The 511th and the 512th call", "leaf 1 2 3 4; pack along 0 0 0; lay 0 5 6 = 1; 100 * kern 1; 99 * pack along 0 0 0",
            "308 * lay 0 5 6 = 1; mark 0 1 = 5; of 99 8 = 1");
    }
}
