/** Promise 12 with ordinary inputs: "THE PLACE of item i of a box's list." */
public final class PlaceTest {
    private static final Check CHECK = new Check();

    public static void main(String[] args) {
        along();
        below();
        shares();
        rounded();
        orders();
        overfull();
        withinBoxes();
        CHECK.finish();
    }

    private static void run(String title, String... rows) {
        Run.make(CHECK, title, rows);
    }

    /** "THE PLACE of an item: the sum of all sizes before it along the length (as they were added above" */
    private static void along() {
        run("Along", "leaf 1 10 1 2; kern -4; rule RUNNING 7 7; rule 5 RUNNING 7; glue 100 0 0 0 0; pack along 0 0 0",
            "places 0 = 0 10 6 6 11; box 0 50; glue 3 1 0 1 0; box 0 -50; glue 3 2 0 2 0; kern 1; pack along 2 30 0",
            "places 1 = 0 111 124 235 258; box 0 0; glue 3 10 0 10 0; box 0 0; glue 3 20 0 20 0; kern 1",
            "pack along 2 -15 0; places 2 = 0 111 109 220 213");
    }

    /** "but for a leaf, box or rule packed below: also the depth before it, not its height)" */
    private static void below() {
        run("Below", "leaf 1 10 5 2; leaf 1 12 6 3; kern 40; glue 50 1 1 0 0; rule 1 RUNNING 8; rule 1 9 RUNNING; kern 1",
            "leaf 1 1 1 10; pack below 0 0 0; places 0 = 0 7 13 56 106 114 123 124");
        run("Below, stretched", "leaf 1 1 5 2; glue 50 1 1 0 0; leaf 1 1 4 3; glue 60 3 1 0 0; kern 7; pack below 2 100 0",
            "places 0 = 0 5 82 86 224");
        run("Below, negative", "leaf 1 0 -5 -2; leaf 1 0 -6 -3; kern 0; pack below 0 0 0; places 0 = 0 -7 -13");
        run("Below, boxes", "leaf 1 9 5 2; pack along 0 0 0; kern 1; box 0 70; box 0 -70; kern 4; box 0 0; pack below 0 0 2",
            "places 1 = 0 1 8 13 19");
    }

    /**
     * "and the glue's SHARE: of the glue of the box's order before it, the sum of stretch (shrink, if the
     * excess is below 0), times the excess, divided by the total"
     */
    private static void shares() {
        String list = "glue 0 1 0 4 0; leaf 1 0 0 0; glue 0 2 0 3 0; leaf 1 0 0 0; glue 0 5 0 1 0; leaf 1 0 0 0; ";
        run("The glue's share", list + "pack along 2 80 0; places 0 = 0 10 10 30 30 80",
            list + "pack along 2 -8 0; places 1 = 0 -4 -4 -7 -7 -8", list + "pack below 1 160 0; places 2 = 0 20 20 60 60 160",
            list + "pack below 1 -4 0; places 3 = 0 -2 -2 -4 -4 -4");
    }

    /** "divided by the total, rounded to the nearest integer, halves away from 0; 0 if the total is 0" */
    private static void rounded() {
        String fifths = "5 * glue 0 1 2 1 2; ";
        run("Fifths", fifths + "pack below 2 2 0; places 0 = 0 0 1 1 2", fifths + "pack below 2 -2 0; places 1 = 0 0 -1 -1 -2");
        run("Nothing gives", "kern 3; kern 4; leaf 1 1 1 1; pack along 2 9 0; places 0 = 0 3 7; kern 3; kern 4; leaf 1 1 1 1",
            "pack below 2 -9 0; places 1 = 0 3 7");
    }

    /** "of the glue of the box's order before it" */
    private static void orders() {
        String glues = "glue 10 5 0 5 2; glue 10 6 1 6 1; glue 10 7 2 7 0; kern 0; ";
        run("Glue of the box's order alone", glues + "pack along 2 9 0; places 0 = 0 10 20 39",
            glues + "pack along 2 -9 0; places 1 = 0 1 11 21", "glue 10 3 0 1 0; kern 0; pack along 2 9 0; places 2 = 0 19");
    }

    /** "the excess is taken as less the total for the places" */
    private static void overfull() {
        run("An overfull box shrinks by the shrink there is", "glue 10 9 3 2 0; glue 10 9 3 1 0; kern 0; pack along 2 -8 0",
            "places 0 = 0 8 17; kern 10; glue 0 1 0 0 0; kern 0; pack below 2 -8 0; places 1 = 0 10 10");
    }

    /** "THE PLACE of item i of a box's list." */
    private static void withinBoxes() {
        run("A box in the list goes with its size, whatever its own places", "kern 5; glue 1 1 0 0 0; kern 6; pack along 2 3 0",
            "places 0 = 0 5 9; box 0 0; glue 1 2 0 0 0; box 0 0; kern 2; pack along 2 8 0; places 1 = 0 15 24 39",
            "places 0 = 0 5 9");
    }
}
