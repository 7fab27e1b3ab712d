/** Promises 1 to 8 with ordinary inputs: a new object, what the list takes, and what it keeps. */
public final class ListTest {
    private static final Check CHECK = new Check();

    public static void main(String[] args) {
        objectsOfTheirOwn();
        items();
        leaf();
        rule();
        glue();
        kern();
        box();
        keep();
        CHECK.finish();
    }

    private static void run(String title, String... rows) {
        Run.make(CHECK, title, rows);
    }

    /** "No boxes, an empty list, no marks." */
    private static void objectsOfTheirOwn() {
        BoxPacker one = new BoxPacker();
        one.leaf(1, 2, 3, 4);
        one.pack(false, 0, 0, 0);
        one.lay(0, 0, 0);
        one.kern(1);
        BoxPacker other = new BoxPacker();
        CHECK.same("another object: items", other.items(), 0);
        CHECK.same("another object: boxes", other.boxes(), 0);
        other.leaf(5, 6, 7, 8);
        other.pack(false, 0, 0, 0);
        other.lay(0, 0, 0);
        other.kern(90);
        CHECK.same("the first object: items", one.items(), 1);
        CHECK.same("the first object: width of its box", one.of(0, 0), 2);
        CHECK.same("the first object: tag of its mark", one.mark(0, 0), 1);
        CHECK.same("the first object: its next box", one.pack(false, 0, 0, 0), 1);
        CHECK.same("the first object: width of its next box", one.of(1, 0), 1);
    }

    /** "A LIST has up to 100 ITEMS, from 0 on" and "How many items the list has." */
    private static void items() {
        run("Items of all kinds, from 0 on", "pack along 0 0 0; items = 0; leaf 1 1 1 1 = 0; items = 1; rule 1 1 1 = 1",
            "items = 2; glue 1 1 1 1 1 = 2; items = 3; kern 1 = 3; items = 4; box 0 1 = 4; items = 5; items = 5",
            "pack along 0 0 0; items = 0; kern 1 = 0; items = 1");
    }

    /** "A leaf comes behind the list: its item." and "a LEAF (a tag 0 .. 65535, its width, height and depth)" */
    private static void leaf() {
        run("A leaf", "leaf 77 3 4 5 = 0; pack along 0 0 0; sizes 0 = 3 4 5; lay 0 0 0 = 1; marked 0 = 77 0 0 3 4 5");
        run("Leaves behind the list", "kern 50 = 0; leaf 77 3 4 5 = 1; leaf 78 6 1 2 = 2; kern 7; pack along 0 0 0",
            "places 0 = 0 50 53 59; lay 0 0 0 = 2; marked 0 = 77 50 0 3 4 5; marked 1 = 78 53 0 6 1 2");
    }

    /** "A rule comes behind the list: its item." and "a RULE (width, height, depth; each may be RUNNING)" */
    private static void rule() {
        run("A rule", "rule 3 4 5 = 0; pack along 0 0 0; sizes 0 = 3 4 5; lay 0 0 0 = 1; marked 0 = NONE 0 0 3 4 5");
        run("Rules behind the list", "leaf 7 50 8 9 = 0; rule 3 4 5 = 1; rule 6 RUNNING 1 = 2; rule 2 1 RUNNING = 3",
            "pack along 0 0 0; places 0 = 0 50 53 59; lay 0 0 0 = 4; marked 1 = NONE 50 0 3 4 5; marked 2 = NONE 53 0 6 8 1",
            "marked 3 = NONE 59 0 2 1 9; leaf 7 50 8 9; rule RUNNING 4 5 = 1; pack below 0 0 5; lay 1 0 0 = 2",
            "marked 1 = NONE 0 0 50 4 5");
    }

    /**
     * "Glue comes behind the list: its item." and "GLUE (its width; stretch and shrink, not below 0, each
     * with an ORDER 0 .. 3)"
     */
    private static void glue() {
        run("Glue", "glue 9 5 2 7 1 = 0; pack along 2 4 0; sizes 0 = 13 0 0; fit 0 = 4 2 5 0 0",
            "glue 9 5 2 7 1; pack along 2 -4 0; sizes 1 = 5 0 0; fit 1 = -4 1 7 0 0; lay 1 0 0 = 0");
        run("Glue behind the list", "leaf 7 50 8 9 = 0; glue 9 5 2 7 1 = 1; glue 2 1 2 1 1 = 2; kern 3; pack along 2 12 0",
            "places 0 = 0 50 69 73; fit 0 = 12 2 6 0 0");
    }

    /** "A kern comes behind the list: its item." and "a KERN (a width)" */
    private static void kern() {
        run("A kern has a width alone", "kern 6 = 0; pack along 2 5 0; sizes 0 = 11 0 0; fit 0 = 5 0 0 10000 0",
            "kern 6; pack along 2 -5 0; sizes 1 = 1 0 0; fit 1 = -5 0 0 1000000 5; lay 1 0 0 = 0");
        run("Kerns behind the list", "leaf 7 50 8 9 = 0; kern 6 = 1; kern -2 = 2; leaf 8 1 1 1 = 3; pack along 0 0 0",
            "places 0 = 0 50 56 54; sizes 0 = 55 8 9");
    }

    /** "A box comes behind the list: its item." and "a BOX that was packed before, with a SHIFT" */
    private static void box() {
        run("Boxes behind the list", "leaf 1 10 20 30; pack along 0 0 0; kern 4; pack along 0 0 0; kern 5; box 0 7 = 1",
            "box 0 0 = 2; box 1 -50 = 3; items = 4; pack along 0 0 0 = 2; sizes 2 = 29 50 37; places 2 = 0 5 15 25",
            "lay 2 0 0 = 2; marked 0 = 1 5 7 10 20 30; marked 1 = 1 15 0 10 20 30");
        run("A box stays what it is, however often it is taken", "leaf 1 10 20 30; pack along 0 0 0; box 0 7; box 0 -7",
            "pack along 2 4 0; box 0 3; pack below 1 99 0; sizes 0 = 10 20 30; fit 0 = 0 0 0 0 0; counts 0 = 1 1 1",
            "box 0 0; pack along 0 0 0; sizes 3 = 10 20 30; lay 0 5 6 = 1; marked 0 = 1 5 6 10 20 30");
    }

    /** "The list keeps its first n items." */
    private static void keep() {
        run("The first items are kept", "leaf 1 1 1 1; kern 20; leaf 2 300 3 3; keep 2 = true; items = 2; kern 4000 = 2",
            "leaf 3 5 1 1; pack along 0 0 0; sizes 0 = 4026 1 1; places 0 = 0 1 21 4021; items = 0; lay 0 0 0 = 2",
            "mark 0 0 = 1; mark 1 0 = 3");
        run("Of boxes, too", "leaf 1 9 9 9; pack along 0 0 0; kern 1; box 0 0; box 0 100; keep 2 = true; pack along 0 0 0",
            "sizes 1 = 10 9 9; counts 1 = 2 2 3");
    }
}
