/** Promises 13 and 14 with ordinary inputs: a box laid out, and its marks. */
public final class LayTest {
    private static final Check CHECK = new Check();

    public static void main(String[] args) {
        along();
        below();
        within();
        runningRules();
        exampleOfTheReadme();
        CHECK.finish();
    }

    private static void run(String title, String... rows) {
        Run.make(CHECK, title, rows);
    }

    private static void along() {
        run("Along", "leaf 65 10 7 2; glue 5 1 0 0 0; rule 3 4 5; kern 1; leaf 0 -6 -7 -8; pack along 2 20 0",
            "lay 0 1000 2000 = 3; marked 0 = 65 1000 2000 10 7 2; marked 1 = NONE 1035 2000 3 4 5",
            "marked 2 = 0 1039 2000 -6 -7 -8; lay 0 -30 -40 = 3; marked 0 = 65 -30 -40 10 7 2");
    }

    private static void below() {
        run("Below", "leaf 65 10 7 2; glue 5 1 0 0 0; rule 3 4 5; kern 1; leaf 66 -6 -7 -8; pack below 2 20 MAX; of 0 1 = 37",
            "lay 0 1000 2000 = 3; marked 0 = 65 1000 1970 10 7 2; marked 1 = NONE 1000 2001 3 4 5",
            "marked 2 = 66 1000 2000 -6 -7 -8");
    }

    private static void within() {
        run("Boxes within boxes", "leaf 1 10 7 2; leaf 2 20 9 3; pack along 0 0 0; leaf 3 30 5 4; box 0 100; leaf 4 30 6 4",
            "pack below 0 0 MAX; sizes 1 = 130 27 4; box 1 -50; leaf 5 1 1 1; box 0 8; pack along 0 0 0; lay 2 1000 2000 = 7",
            "marked 0 = 3 1000 1928 30 5 4; marked 1 = 1 1100 1941 10 7 2; marked 2 = 2 1110 1941 20 9 3",
            "marked 3 = 4 1000 1950 30 6 4; marked 4 = 5 1130 2000 1 1 1; marked 5 = 1 1131 2008 10 7 2",
            "marked 6 = 2 1141 2008 20 9 3; lay 0 0 0 = 2; marked 1 = 2 10 0 20 9 3");
    }

    private static void runningRules() {
        run("Running rules along", "leaf 1 10 7 2; rule 4 RUNNING RUNNING; rule 5 RUNNING 1; rule 6 -1 RUNNING",
            "rule RUNNING 7 2; pack along 2 50 0; lay 0 0 0 = 4; marked 1 = NONE 10 0 4 7 2; marked 2 = NONE 14 0 5 7 1",
            "marked 3 = NONE 19 0 6 -1 2");
        run("Running rules below", "leaf 1 10 7 2; rule RUNNING 4 1; rule 6 RUNNING 3; rule 8 5 RUNNING; rule 8 RUNNING RUNNING",
            "pack below 0 0 MAX; lay 0 0 22 = 4; marked 1 = NONE 0 13 10 4 1; marked 2 = NONE 0 14 6 0 3",
            "marked 3 = NONE 0 22 8 5 0; box 0 30; rule RUNNING 4 0; pack below 0 0 MAX; lay 1 0 0 = 5",
            "marked 4 = NONE 0 0 40 4 0");
    }

    private static void exampleOfTheReadme() {
        BoxPacker p = new BoxPacker();
        p.leaf('A', 100, 70, 20);
        p.glue(5, 3, 0, 2, 0);
        p.leaf('B', 100, 70, 20);
        int line = p.pack(false, 1, 207, 0);
        CHECK.same("README, badness", p.of(line, 6), 30);
        CHECK.same("README, place", p.place(line, 2), 107);
        p.box(line, 0);
        p.kern(10);
        p.rule(BoxPacker.RUNNING, 1, 0);
        int page = p.pack(true, 0, 0, 0);
        CHECK.same("README, marks", p.lay(page, 0, 101), 3);
        CHECK.same("README, y of the rule", p.mark(2, 2), 101);
        CHECK.same("README, width of the rule", p.mark(2, 3), 207);
    }
}
