/** Promises 9 to 11 with ordinary inputs: packing, how many boxes there are, and what is told of a box. */
public final class PackTest {
    private static final Check CHECK = new Check();

    public static void main(String[] args) {
        along();
        below();
        excess();
        orders();
        overfull();
        badness();
        deepAndInAll();
        CHECK.finish();
    }

    private static void run(String title, String... rows) {
        Run.make(CHECK, title, rows);
    }

    private static void along() {
        run("Along", "leaf 1 10 -7 -8; rule RUNNING -1 RUNNING; pack along 0 0 0 = 0; sizes 0 = 10 0 0",
            "leaf 1 10 5 2; kern -3; glue 100 1 0 1 0; rule 20 RUNNING 9; rule RUNNING 8 RUNNING; box 0 0",
            "pack along 0 0 0 = 1; sizes 1 = 137 8 9; boxes = 2; items = 0");
        run("Boxes along, raised and lowered", "leaf 1 137 8 9; pack along 0 0 0; box 0 -4; pack along 0 0 0",
            "sizes 1 = 137 12 5; box 0 10; pack along 0 0 0; sizes 2 = 137 0 19");
    }

    private static void below() {
        run("Leaves below", "leaf 1 10 5 2; leaf 1 12 6 3; pack below 0 0 MAX; sizes 0 = 12 13 3",
            "leaf 1 10 5 2; kern 4; pack below 0 0 MAX; sizes 1 = 10 11 0");
        run("Running rules below", "glue 50 0 0 0 0; rule RUNNING RUNNING RUNNING; leaf 2 -5 1 -2; rule 3 7 RUNNING",
            "pack below 0 0 MAX; sizes 0 = 3 56 0");
        run("Boxes below", "leaf 1 12 13 3; pack along 0 0 0; leaf 1 10 11 0; pack along 0 0 0; box 0 9; box 1 -30",
            "rule -8 1 6; pack below 0 0 MAX; sizes 2 = 21 28 6");
        run("Too deep", "leaf 1 0 5 7; pack below 0 0 3; sizes 0 = 0 9 3; leaf 1 0 5 7; pack below 1 20 3",
            "sizes 1 = 0 20 3; of 1 3 = 11");
    }

    private static void excess() {
        run("Natural, to a size, by a size", "kern 30; pack along 0 0 0; of 0 0 = 30; of 0 3 = 0; kern 30; pack along 1 77 0",
            "of 1 0 = 77; of 1 3 = 47; kern 30; pack along 2 77 0; of 2 0 = 107; of 2 3 = 77; kern 30; pack below 1 -77 0",
            "of 3 1 = -77; of 3 3 = -107; kern 30; pack below 2 -77 0; of 4 1 = -47; of 4 3 = -77");
    }

    private static void orders() {
        String glues = "glue 0 4 0 40 3; glue 0 5 1 50 0; glue 0 6 1 60 0; glue 0 0 2 70 3; ";
        run("Order and total", glues + "pack along 2 9 0; of 0 4 = 1; of 0 5 = 11",
            glues + "pack below 2 -9 0; of 1 4 = 3; of 1 5 = 110", glues + "pack along 2 0 0; of 2 4 = 0; of 2 5 = 0",
            "glue 0 4 0 5 0; glue 0 4 0 5 0; pack along 2 9 0; of 3 4 = 0; of 3 5 = 8");
    }

    private static void overfull() {
        run("Overfull", "glue 0 0 0 5 0; pack along 2 -9 0; fit 0 = -9 0 5 1000000 4",
            "glue 0 0 0 5 0; pack along 2 -3 0; fit 1 = -3 0 5 22 0; glue 0 0 0 5 1; pack along 2 -9 0; fit 2 = -9 1 5 0 0");
    }

    private static void badness() {
        String glue = "glue 0 100 0 100 0; pack along 2 ";
        run("Badness", glue + "10 0; of 0 6 = 0", glue + "50 0; of 1 6 = 12", glue + "-50 0; of 2 6 = 12",
            glue + "100 0; of 3 6 = 100", glue + "200 0; of 4 6 = 800", glue + "900 0; of 5 6 = 10000");
        run("Badness of great sums", "glue 0 1000000000 0 0 0; pack along 2 1000000000 0; of 0 6 = 100",
            "glue 0 20000000 0 0 0; pack below 2 10000000 0; of 1 6 = 12");
    }

    private static void deepAndInAll() {
        run("How deep, how many items, how many in all", "kern 1; glue 1 0 0 0 0; rule 1 1 1; pack along 0 0 0",
            "counts 0 = 1 3 3; box 0 0; leaf 1 1 1 1; box 0 0; pack below 0 0 0; counts 1 = 2 3 9; box 1 0; box 0 0",
            "pack along 0 0 0; counts 2 = 3 2 14");
    }
}
