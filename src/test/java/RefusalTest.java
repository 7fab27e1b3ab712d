import java.util.ArrayList;
import java.util.List;

/**
 * "A call that throws changes nothing; where several exceptions that a call names fit, it is the one that it
 * names first."
 */
public final class RefusalTest {
    private static final Check CHECK = new Check();
    private static final String RUN = "leaf 65 10 7 2 = 0; glue 5 3 0 2 0 = 1; items = 2; rule 3 RUNNING 1 = 2; kern -1 = 3;"
        + "keep 9 = false; keep 3 = true; leaf 66 10 8 0 = 3; pack along 2 6 0 = 0; sizes 0 = 34 8 2; fit 0 = 6 0 3 800 0;"
        + "places 0 = 0 10 21 24; lay 0 100 200 = 3; marked 1 = NONE 121 200 3 8 1; items = 0; boxes = 1; box 0 5 = 0;"
        + "glue 9 0 0 4 1 = 1; rule RUNNING 2 2 = 2; mark 2 0 = 66; pack below 1 10 1 = 1; sizes 1 = 39 10 1;"
        + "fit 1 = -12 1 4 0 0; counts 1 = 2 3 7; places 1 = 0 8 7; lay 1 0 0 = 4; marked 3 = NONE 0 -1 39 2 2; boxes = 2";
    /** Each of them is refused whatever has been called before, and always for the same reason. */
    private static final String ALWAYS_REFUSED = "leaf -1 1 1 1 ! argument; leaf 65536 1 1 1 ! argument;"
        + "leaf 1 MAX+1 1 1 ! argument; leaf 1 1 RUNNING 1 ! argument; leaf 1 1 1 INT_MIN ! argument;"
        + "rule MAX+1 1 1 ! argument; rule 1 -MAX-2 1 ! argument; rule 1 1 INT_MAX ! argument;"
        + "glue RUNNING 1 1 1 1 ! argument; glue 1 -1 1 1 1 ! argument; glue 1 MAX+1 1 1 1 ! argument;"
        + "glue 1 1 4 1 1 ! argument; glue 1 1 1 -1 1 ! argument; glue 1 1 1 MAX+1 1 ! argument;"
        + "glue 1 1 1 1 -1 ! argument; kern RUNNING ! argument; kern MAX+1 ! argument; box -1 1 ! index;"
        + "box 100 1 ! index; pack along 3 1 1 ! argument; pack below -1 1 1 ! argument;"
        + "pack along 1 MAX+1 1 ! argument; pack below 2 1 RUNNING ! argument; of -1 0 ! index; of 100 0 ! index;"
        + "of 0 -1 ! index; of 0 11 ! index; place -1 0 ! index; place 100 0 ! index; place 0 -1 ! index;"
        + "place 0 100 ! index; lay -1 1 1 ! index; lay 100 1 1 ! index; mark -1 0 ! index; mark 1000 0 ! index;"
        + "mark 0 -1 ! index; mark 0 6 ! index";
    private static final String TEN_DEEP = "pack along 0 0 0; box 0 0; pack along 0 0 0; box 1 0; pack along 0 0 0;"
        + "box 2 0; pack along 0 0 0; box 3 0; pack along 0 0 0; box 4 0; pack along 0 0 0; box 5 0; pack along 0 0 0;"
        + "box 6 0; pack along 0 0 0; box 7 0; pack along 0 0 0; box 8 0; pack along 0 0 0 = 9";

    public static void main(String[] args) {
        anywhereInARun();
        whenTheListIsFull();
        whenThereAreAHundredBoxes();
        whenItWouldBeTooDeep();
        whenASumIsNoSize();
        whenALayoutIsWrong();
        firstNamedByItems();
        firstNamedByBox();
        firstNamedByPack();
        firstNamedByLay();
        CHECK.finish();
    }

    private static void run(String title, String... rows) {
        Run.make(CHECK, title, rows);
    }

    private static void anywhereInARun() {
        List<Step> steps = Step.read(RUN);
        for (Step refused : Step.read(ALWAYS_REFUSED)) {
            List<Step> everywhere = new ArrayList<>();
            for (Step step : steps) {
                everywhere.add(refused);
                everywhere.add(step);
            }
            everywhere.add(refused);
            Run.make(CHECK, refused + " before and behind each call", everywhere);
        }
    }

    private static void whenTheListIsFull() {
        for (String item : new String[] {"leaf 9 9 9 9", "rule 9 9 9", "glue 9 9 3 9 3", "kern 9", "box 0 9"}) {
            run("The list is full: " + item, "leaf 1 1 1 1; pack along 0 0 0; lay 0 3 4 = 1; 50 * kern 1; 50 * glue 1 1 0 1 0",
                item + " ! too much; items = 100; marked 0 = 1 3 4 1 1 1; boxes = 1; pack along 2 50 0 = 1",
                "sizes 1 = 150 0 0; fit 1 = 50 0 50 100 0; place 1 99 = 148; " + item + " = 0");
        }
    }

    private static void whenThereAreAHundredBoxes() {
        run("There are 100 boxes", "leaf 1 2 3 4; pack along 0 0 0; lay 0 5 6 = 1; 98 * pack along 0 0 0; kern 7",
            "pack below 0 0 0 = 99; kern 8; pack along 0 0 0 ! too much; pack below 2 1 1 ! too much; items = 1",
            "boxes = 100; sizes 99 = 0 7 0; of 100 0 ! index; marked 0 = 1 5 6 2 3 4; kern 9 = 1; keep 2 = true",
            "box 99 0 = 2; box 100 0 ! index");
    }

    private static void whenItWouldBeTooDeep() {
        run("It would be 11 deep", TEN_DEEP, "leaf 1 2 3 4; pack along 0 0 0 = 10; lay 10 5 6 = 1; kern 3; box 9 1",
            "pack along 0 0 0 ! too much; pack below 1 7 0 ! too much; items = 2; boxes = 11; marked 0 = 1 5 6 2 3 4",
            "keep 1 = true; pack along 0 0 0 = 11; sizes 11 = 3 0 0; counts 11 = 1 1 1; of 9 8 = 10");
    }

    private static void whenASumIsNoSize() {
        run("A sum is no size", "leaf 1 2 3 4; pack along 0 0 0; lay 0 5 6 = 1; kern MAX; leaf 2 0 0 1; kern 1",
            "pack along 0 0 0 ! state; pack below 0 0 0 ! state; pack along 2 -9 0 ! state; items = 3; boxes = 1",
            "marked 0 = 1 5 6 2 3 4; sizes 0 = 2 3 4; keep 2 = true; pack along 1 0 0 = 1; sizes 1 = 0 0 1",
            "fit 1 = -MAX 0 0 1000000 MAX; places 1 = 0 MAX");
        run("The excess is none, and another time it is", "kern -1; glue 0 4 0 0 0; pack along 1 MAX 0 ! state; items = 2",
            "pack along 1 3 0 = 0; sizes 0 = 3 0 0; fit 0 = 4 0 4 100 0; places 0 = 0 -1");
    }

    private static void whenALayoutIsWrong() {
        run("x or y is no size", "leaf 1 2 3 4; pack along 0 0 0; leaf 5 6 7 8; pack along 0 0 0; lay 0 5 6 = 1",
            "lay 1 MAX+1 0 ! argument; marked 0 = 1 5 6 2 3 4; lay 1 0 RUNNING ! argument; marked 0 = 1 5 6 2 3 4",
            "lay 2 0 0 ! index; marked 0 = 1 5 6 2 3 4; mark 1 0 ! index; lay 1 0 0 = 1; marked 0 = 5 0 0 6 7 8");
    }

    private static void firstNamedByItems() {
        run("A wrong argument, and 100 items", "100 * kern 0; leaf -1 0 0 0 ! argument; leaf 65536 0 0 0 ! argument",
            "leaf 0 MAX+1 0 0 ! argument; leaf 0 0 MAX+1 0 ! argument; leaf 0 0 0 RUNNING ! argument; leaf 0 0 0 0 ! too much",
            "rule MAX+1 0 0 ! argument; rule 0 MAX+1 0 ! argument; rule 0 0 MAX+1 ! argument; rule 0 0 0 ! too much",
            "rule RUNNING RUNNING RUNNING ! too much; glue RUNNING 0 0 0 0 ! argument; glue 0 -1 0 0 0 ! argument",
            "glue 0 MAX+1 0 0 0 ! argument; glue 0 0 4 0 0 ! argument; glue 0 0 0 -1 0 ! argument",
            "glue 0 0 0 MAX+1 0 ! argument; glue 0 0 0 0 -1 ! argument; glue 0 0 0 0 0 ! too much",
            "kern MAX+1 ! argument; kern RUNNING ! argument; kern 0 ! too much; items = 100");
    }

    private static void firstNamedByBox() {
        run("No such box, a wrong shift, 100 items", "pack along 0 0 0; box 1 MAX+1 ! index; box -1 RUNNING ! index",
            "box 0 MAX+1 ! argument; items = 0; 100 * kern 0; box 1 0 ! index; box -1 0 ! index; box 1 MAX+1 ! index",
            "box -1 RUNNING ! index; box 0 MAX+1 ! argument; box 0 RUNNING ! argument; box 0 0 ! too much; items = 100");
    }

    private static void firstNamedByPack() {
        run("A wrong argument, 100 boxes, and a sum that is no size", "100 * pack along 0 0 0; pack along 3 0 0 ! argument",
            "pack along 0 MAX+1 0 ! argument; pack along 0 0 RUNNING ! argument; pack along 0 0 0 ! too much; kern MAX; kern 1",
            "pack along -1 0 0 ! argument; pack below 0 RUNNING 0 ! argument; pack below 0 0 MAX+1 ! argument",
            "pack along 0 0 0 ! too much; pack below 0 0 0 ! too much; items = 2; boxes = 100");
        run("A wrong argument, too deep, and a sum that is no size", TEN_DEEP, "box 9 0; pack along 3 0 0 ! argument",
            "pack along 0 MAX+1 0 ! argument; pack along 0 0 RUNNING ! argument; pack along 0 0 0 ! too much; kern MAX; kern 1",
            "pack along 3 0 0 ! argument; pack below 0 MAX+1 0 ! argument; pack below 0 0 RUNNING ! argument",
            "pack along 0 0 0 ! too much; pack below 0 0 0 ! too much; keep 0 = true; kern MAX; kern 1; box 9 0",
            "pack along 0 0 0 ! too much; pack below 0 0 0 ! too much; keep 2 = true; pack along 0 0 0 ! state; items = 2");
        run("A wrong argument, and a sum that is no size", "kern MAX; kern 1; pack along 3 0 0 ! argument",
            "pack along 1 MAX+1 0 ! argument; pack below 2 0 RUNNING ! argument; pack along 0 0 0 ! state; items = 2");
        run("100 boxes, and too deep", TEN_DEEP, "90 * pack along 0 0 0; box 9 0; pack along 0 0 0 ! too much; items = 1",
            "pack along 3 0 0 ! argument; boxes = 100");
    }

    private static void firstNamedByLay() {
        run("No such box, and no size", "lay 0 RUNNING 0 ! index; lay 0 0 MAX+1 ! index; pack along 0 0 0",
            "lay 0 RUNNING 0 ! argument; lay 1 RUNNING 0 ! index; lay 1 0 MAX+1 ! index; lay -1 MAX+1 RUNNING ! index",
            "lay 0 0 MAX+1 ! argument");
        run("No size, and too much to be laid out", "leaf 1 2 3 4; pack along 0 0 0; lay 0 5 6 = 1; 99 * kern 0",
            "pack along 0 0 0; 100 * box 1 0; pack along 0 0 0; 3 * box 2 0; pack along 0 0 0; of 3 10 = 30003",
            "lay 3 RUNNING 0 ! argument; marked 0 = 1 5 6 2 3 4; lay 3 0 MAX+1 ! argument; mark 0 0 = 1",
            "lay 3 0 0 = NONE; mark 0 0 ! index");
    }
}
