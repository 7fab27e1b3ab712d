/** The boundary cases of promise 12: the glue's share and its rounding, what comes before, the ends. */
public final class PlaceBoundaryTest {
    private static final Check CHECK = new Check();
    private static final String[] WAYS = {"along", "below"};

    public static void main(String[] args) {
        noSuchItem();
        theFirstItem();
        whatComesBefore();
        depthsBefore();
        halves();
        nearHalvesOfGreatTotals();
        totals();
        ordersBefore();
        stretchOrShrink();
        overfull();
        ends();
        CHECK.finish();
    }

    private static void run(String title, String... rows) {
        Run.make(CHECK, title, rows);
    }

    /** "IndexOutOfBoundsException when there is no such box or item." */
    private static void noSuchItem() {
        run("No such box or item", "place 0 0 ! index; kern 3; kern 4; place 0 0 ! index; pack along 0 0 0; kern 5",
            "place 0 -1 ! index; place 0 2 ! index; place 0 3 ! index; place -1 0 ! index; place 1 0 ! index",
            "place 0 INT_MIN ! index; place 0 INT_MAX ! index; place INT_MIN 0 ! index; place INT_MAX 0 ! index",
            "place 0 0 = 0; place 0 1 = 3; items = 1");
        run("An empty box has no item", "pack along 0 0 0; place 0 0 ! index; place 0 -1 ! index; pack below 0 0 0",
            "place 1 0 ! index; boxes = 2");
        run("A hundred items", "100 * kern 2; pack along 0 0 0; place 0 99 = 198; place 0 100 ! index; place 0 0 = 0");
        run("Item i of that box's list", "kern 3; pack along 0 0 0; 2 * kern 4; pack along 0 0 0; place 0 1 ! index",
            "place 1 1 = 4; place 1 2 ! index; place 2 0 ! index");
    }

    /** "the sum of all sizes before it along the length" */
    private static void theFirstItem() {
        for (String way : WAYS) {
            for (String item : new String[] {"leaf 1 2 3 4", "rule 2 3 4", "glue 2 1 0 3 0", "kern 2", "box 0 5"}) {
                run("The first item has nothing before it: " + item, "leaf 1 2 3 4; pack along 0 0 0; " + item,
                    "pack " + way + " 2 1 0; places 1 = 0; " + item + "; pack " + way + " 2 -1 0; places 2 = 0");
            }
        }
    }

    /** "the sum of all sizes before it along the length" */
    private static void whatComesBefore() {
        run("Along, the width of each item", "leaf 1 2 3 4; pack along 0 0 0; leaf 1 1 9 9; rule 10 9 9; kern 100",
            "glue 1000 0 0 0 0; box 0 9; rule RUNNING 9 9; kern -1; kern 0; pack along 0 0 0",
            "places 1 = 0 1 11 111 1111 1113 1113 1112");
        run("Glue has its share behind it, a kern has none", "glue 5 1 0 1 0; kern 5; glue 5 1 0 1 0; kern 5",
            "pack along 2 2 0; places 0 = 0 6 11 17; glue 5 1 0 1 0; kern 5; glue 5 1 0 1 0; kern 5",
            "pack below 2 -2 0; places 1 = 0 4 9 13");
    }

    /** "for a leaf, box or rule packed below: also the depth before it, not its height" */
    private static void depthsBefore() {
        run("Below, also the depth before a leaf, rule or box", "leaf 1 2 3 4; pack along 0 0 0",
            "leaf 1 0 10 1; leaf 1 0 20 2; rule 0 30 3; box 0 9; rule 0 RUNNING RUNNING; leaf 1 0 0 0; pack below 0 0 0",
            "places 1 = 0 11 33 66 73 73");
        run("Below, not the depth before glue or a kern", "leaf 1 0 10 1; kern 100; leaf 1 0 20 2; glue 200 0 0 0 0",
            "leaf 1 0 0 5; kern 0; kern 0; pack below 0 0 0; places 0 = 0 10 111 131 333 333 338");
        run("Below, what is above the greatest depth comes behind all items", "leaf 1 0 10 7; pack below 0 0 7",
            "leaf 1 0 10 7; pack below 0 0 6; leaf 1 0 10 7; pack below 0 0 -9; places 0 = 0; places 1 = 0; places 2 = 0",
            "sizes 0 = 0 10 7; sizes 1 = 0 11 6; sizes 2 = 0 26 -9");
    }

    /** "rounded to the nearest integer, halves away from 0" */
    private static void halves() {
        String two = "2 * glue 0 1 1 1 1; kern 0; ";
        run("Halves go away from 0", two + "pack along 2 1 0; places 0 = 0 1 1", two + "pack along 2 -1 0; places 1 = 0 -1 -1",
            two + "pack along 2 3 0; places 2 = 0 2 3", two + "pack along 2 -3 0; places 3 = 0 -2 -3",
            two + "pack below 2 2 0; places 4 = 0 1 2", two + "pack below 2 -2 0; places 5 = 0 -1 -2");
        String three = "3 * glue 0 1 0 1 0; kern 0; ";
        run("Thirds go to the nearest", three + "pack along 2 1 0; places 0 = 0 0 1 1",
            three + "pack along 2 -1 0; places 1 = 0 0 -1 -1", three + "pack along 2 2 0; places 2 = 0 1 1 2",
            three + "pack along 2 -2 0; places 3 = 0 -1 -1 -2");
        String four = "4 * glue 0 1 0 1 0; kern 0; ";
        run("Quarters go to the nearest, halves away from 0", four + "pack along 2 1 0; places 0 = 0 0 1 1 1",
            four + "pack along 2 -1 0; places 1 = 0 0 -1 -1 -1", four + "pack below 2 3 0; places 2 = 0 1 2 2 3",
            four + "pack below 2 -3 0; places 3 = 0 -1 -2 -2 -3");
        run("The share is rounded, and not the place", "kern -5; " + two + "pack along 2 1 0; places 0 = 0 -5 -4 -4",
            "kern 5; " + two + "pack along 2 -1 0; places 1 = 0 5 4 4");
    }

    /** "rounded to the nearest integer, halves away from 0" */
    private static void nearHalvesOfGreatTotals() {
        run("Just less than a half of the total MAX", "glue 0 536870911 0 536870911 0; glue 0 536870912 0 536870912 0; kern 0",
            "pack along 2 1 0; places 0 = 0 0 1; glue 0 536870911 0 536870911 0; glue 0 536870912 0 536870912 0; kern 0",
            "pack along 2 -1 0; places 1 = 0 0 -1");
        run("Just more than a half of the total MAX", "glue 0 536870912 0 536870912 0; glue 0 536870911 0 536870911 0; kern 0",
            "pack along 2 1 0; places 0 = 0 1 1; glue 0 536870912 0 536870912 0; glue 0 536870911 0 536870911 0; kern 0",
            "pack along 2 -1 0; places 1 = 0 -1 -1");
        run("Just a half of the total MAX-1", "2 * glue 0 536870911 0 536870911 0; kern 0; pack along 2 1 0",
            "places 0 = 0 1 1; 2 * glue 0 536870911 0 536870911 0; kern 0; pack along 2 -1 0; places 1 = 0 -1 -1",
            "glue 0 536870910 0 536870910 0; glue 0 536870912 0 536870912 0; kern 0; pack along 2 1 0; places 2 = 0 0 1",
            "glue 0 536870910 0 536870910 0; glue 0 536870912 0 536870912 0; kern 0; pack along 2 -1 0; places 3 = 0 0 -1");
        // 536870911 * (MAX-2) / (MAX-1) is half of MAX-2, 536870910.5.
        run("A half beside a great share", "2 * glue 0 536870911 0 536870911 0; kern 0; pack along 2 MAX-2 0",
            "places 0 = 0 536870911 MAX-2; 2 * glue 0 536870911 0 536870911 0; kern 0; pack along 2 -MAX+2 0",
            "places 1 = 0 -536870911 -MAX+2");
        // The share is short of the excess by a MAXth of it: by just less than a half, and just more.
        run("All but one part of MAX", "glue 0 MAX-1 0 0 0; glue 0 1 0 0 0; kern 0; pack along 2 536870911 0",
            "places 0 = 0 536870911 536870911; glue 0 MAX-1 0 0 0; glue 0 1 0 0 0; kern 0; pack along 2 536870912 0",
            "places 1 = 0 536870911 536870912");
    }

    /** "0 if the total is 0" */
    private static void totals() {
        run("0 if the total is 0", "glue 5 0 0 0 0; kern 5; pack along 2 9 0; places 0 = 0 5; glue 5 0 0 0 0; kern 5",
            "pack along 2 -9 0; places 1 = 0 5; kern 5; kern 5; pack below 2 9 0; places 2 = 0 5");
        run("A total of 1", "glue 5 1 0 1 0; kern 5; pack along 2 9 0; places 0 = 0 14; glue 5 1 0 1 1; kern 5",
            "pack along 2 -9 0; places 1 = 0 -4");
        run("No excess, no share", "glue 5 1 0 1 0; kern 5; pack along 2 0 0; places 0 = 0 5; glue 5 1 0 1 0; kern 5",
            "pack along 1 10 0; places 1 = 0 5; glue 5 1 0 1 0; kern 5; pack along 0 99 0; places 2 = 0 5");
    }

    /** "of the glue of the box's order before it" */
    private static void ordersBefore() {
        for (int order = 1; order < 4; order++) {
            String lower = "glue 10 9 " + (order - 1) + " 9 " + (order - 1) + "; ";
            String own = "glue 10 1 " + order + " 1 " + order + "; ";
            String list = lower + own + lower + own + "kern 0; ";
            run("Glue of the box's order alone, " + order, list + "pack along 2 8 0; places 0 = 0 10 24 34 48",
                list + "pack below 2 -8 0; places 1 = 0 10 16 26 32");
        }
        run("Glue of a greater order without stretch has no share", "glue 10 0 3 5 0; glue 10 1 0 5 0; kern 0",
            "pack along 2 8 0; places 0 = 0 10 28");
    }

    /** "the sum of stretch (shrink, if the excess is below 0)" */
    private static void stretchOrShrink() {
        String list = "glue 10 1 0 3 0; glue 10 3 0 1 0; kern 0; ";
        run("Stretch, or shrink if the excess is below 0", list + "pack along 2 4 0; places 0 = 0 11 24",
            list + "pack along 2 -4 0; places 1 = 0 7 16", list + "pack along 2 1 0; places 2 = 0 10 21",
            list + "pack along 2 -1 0; places 3 = 0 9 19");
        String orders = "glue 10 1 2 1 1; glue 10 1 1 1 2; kern 0; ";
        run("Each with its own order", orders + "pack along 2 4 0; places 0 = 0 14 24",
            orders + "pack along 2 -4 0; places 1 = 0 10 16");
    }

    /** "the excess is taken as less the total for the places" */
    private static void overfull() {
        String list = "glue 10 9 0 3 0; glue 10 9 0 2 0; kern 0; ";
        run("The excess is taken as less the total", list + "pack along 2 -4 0; places 0 = 0 8 16",
            list + "pack along 2 -5 0; places 1 = 0 7 15", list + "pack along 2 -6 0; places 2 = 0 7 15",
            list + "pack along 2 -MAX 0; places 3 = 0 7 15", "of 1 7 = 0; of 2 7 = 1; of 3 7 = MAX-5");
        String first = "glue 10 9 0 3 1; glue 10 9 0 2 1; kern 0; ";
        run("Not when the order is above 0", first + "pack along 2 -5 0; places 0 = 0 7 15",
            first + "pack along 2 -10 0; places 1 = 0 4 10");
    }

    /** "SIZES are ints from -1073741823 to 1073741823." */
    private static void ends() {
        run("The greatest place", "glue 0 1 0 0 0; kern MAX; kern -MAX; pack along 2 MAX 0; places 0 = 0 MAX 2147483646",
            "glue 0 MAX 0 0 0; kern MAX; kern -MAX; pack below 2 MAX 0; places 1 = 0 MAX 2147483646");
        run("The least place", "glue 0 0 0 1 1; kern -MAX; kern MAX; pack along 2 -MAX 0; places 0 = 0 -MAX -2147483646",
            "glue 0 0 0 MAX 0; kern -MAX; kern MAX; pack below 2 -MAX 0; places 1 = 0 -MAX -2147483646");
    }
}
