/** Promises 1 to 8 with ordinary inputs: a new object, what the list takes, and what it keeps. */
public final class ListTest {
    private static final Check CHECK = new Check();

    public static void main(String[] args) {
        constants();
        objectsOfTheirOwn();
        leaf();
        rule();
        glue();
        kern();
        box();
        keep();
        CHECK.finish();
    }

    private static void run(String title, String... rows) {
        Run.make(CHECK, title, rows);
    }

    private static void constants() {
        CHECK.same("RUNNING", BoxPacker.RUNNING, -1073741824);
        CHECK.same("NONE", BoxPacker.NONE, -1);
    }

    private static void objectsOfTheirOwn() {
        BoxPacker one = new BoxPacker();
        one.leaf(1, 2, 3, 4);
        one.pack(false, 0, 0, 0);
        one.lay(0, 0, 0);
        one.kern(1);
        BoxPacker other = new BoxPacker();
        CHECK.same("another object: items", other.items(), 0);
        CHECK.same("another object: boxes", other.boxes(), 0);
        other.leaf(5, 6, 7, 8);
        other.pack(false, 0, 0, 0);
        other.lay(0, 0, 0);
        other.kern(90);
        CHECK.same("the first object: items", one.items(), 1);
        CHECK.same("the first object: width of its box", one.of(0, 0), 2);
        CHECK.same("the first object: tag of its mark", one.mark(0, 0), 1);
        CHECK.same("the first object: its next box", one.pack(false, 0, 0, 0), 1);
        CHECK.same("the first object: width of its next box", one.of(1, 0), 1);
    }

    private static void leaf() {
        run("A leaf", "leaf 77 3 4 5 = 0; items = 1; pack along 0 0 0; sizes 0 = 3 4 5; lay 0 0 0; mark 0 0 = 77");
    }

    private static void rule() {
        run("A rule", "rule 3 4 5 = 0; items = 1; pack along 0 0 0; sizes 0 = 3 4 5; lay 0 0 0; mark 0 0 = NONE");
    }

    private static void glue() {
        run("Glue", "glue 9 5 2 7 1 = 0; items = 1; pack along 2 4 0; of 0 0 = 13; fit 0 = 4 2 5 0 0",
            "glue 9 5 2 7 1; pack along 2 -4 0; of 1 0 = 5; fit 1 = -4 1 7 0 0");
    }

    private static void kern() {
        run("A kern does not stretch", "kern 6 = 0; items = 1; pack along 2 5 0; of 0 0 = 11; fit 0 = 5 0 0 10000 0");
    }

    private static void box() {
        run("Boxes", "leaf 1 10 20 30; pack along 0 0 0; kern 4; pack along 0 0 0; box 0 7 = 0; box 0 0 = 1; box 1 -50 = 2",
            "items = 3; pack along 0 0 0 = 2; sizes 2 = 24 50 37");
    }

    private static void keep() {
        run("The first items are kept", "kern 1; kern 20; kern 300; keep 2 = true; items = 2; kern 4000 = 2",
            "pack along 0 0 0; of 0 0 = 4021; items = 0");
    }
}
