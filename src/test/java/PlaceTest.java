/** Promise 12: the place of each item, glue's share exactly rounded. */
public final class PlaceTest {
    private static final int RUNNING = BoxPacker.RUNNING;
    private static final int MAX = 1073741823;
    private static final Check CHECK = new Check();

    public static void main(String[] args) {
        along();
        below();
        halves();
        orders();
        overfull();
        farPlaces();
        exactRounding();
        wrongArguments();
        CHECK.finish();
    }

    private static void places(String what, BoxPacker p, int box, int... due) {
        CHECK.same(what + ", items", p.of(box, 9), due.length);
        for (int i = 0; i < due.length; i++) {
            CHECK.same(what + ", place " + i, p.place(box, i), due[i]);
        }
    }

    private static void along() {
        BoxPacker p = new BoxPacker();
        p.leaf(1, 10, 1, 2);
        p.kern(-4);
        p.rule(RUNNING, 7, 7);
        p.rule(5, RUNNING, 7);
        p.glue(100, 0, 0, 0, 0);
        p.pack(false, 0, 0, 0);
        places("natural", p, 0, 0, 10, 6, 6, 11);
        p.box(0, 50);
        p.glue(3, 1, 0, 1, 0);
        p.box(0, -50);
        p.glue(3, 2, 0, 2, 0);
        p.kern(1);
        p.pack(false, 2, 30, 0);
        places("stretched", p, 1, 0, 111, 124, 235, 258);
        p.box(0, 0);
        p.glue(3, 10, 0, 10, 0);
        p.box(0, 0);
        p.glue(3, 20, 0, 20, 0);
        p.kern(1);
        p.pack(false, 2, -15, 0);
        places("shrunk", p, 2, 0, 111, 109, 220, 213);
    }

    private static void below() {
        BoxPacker p = new BoxPacker();
        p.leaf(1, 10, 5, 2);
        p.leaf(1, 12, 6, 3);
        p.kern(40);
        p.glue(50, 1, 1, 0, 0);
        p.rule(1, RUNNING, 8);
        p.rule(1, 9, RUNNING);
        p.kern(1);
        p.leaf(1, 1, 1, 10);
        p.pack(true, 0, 0, 4);
        places("natural", p, 0, 0, 7, 13, 56, 106, 114, 123, 124);
        p.leaf(1, 10, 5, 2);
        p.glue(50, 1, 1, 0, 0);
        p.box(0, 99);
        p.glue(50, 1, 1, 0, 0);
        p.kern(1);
        p.pack(true, 2, 1000, 0);
        places("stretched", p, 1, 0, 5, 557, 557 + 131, 557 + 131 + 4 + 50 + 500);
        p.leaf(1, 0, -5, -2);
        p.leaf(1, 0, -6, -3);
        p.kern(0);
        p.pack(true, 0, 0, 0);
        places("negative", p, 2, 0, -7, -13);
    }

    private static void halves() {
        BoxPacker p = new BoxPacker();
        for (int i = 0; i < 4; i++) {
            p.glue(0, 1, 0, 1, 0);
        }
        p.pack(false, 2, 2, 0);
        places("halves stretched", p, 0, 0, 1, 1, 2);
        for (int i = 0; i < 4; i++) {
            p.glue(0, 1, 0, 1, 0);
        }
        p.pack(false, 2, -2, 0);
        places("halves shrunk", p, 1, 0, -1, -1, -2);
        for (int i = 0; i < 5; i++) {
            p.glue(0, 1, 2, 1, 2);
        }
        p.pack(true, 2, 2, 0);
        places("fifths stretched", p, 2, 0, 0, 1, 1, 2);
        for (int i = 0; i < 5; i++) {
            p.glue(0, 1, 2, 1, 2);
        }
        p.pack(true, 2, -2, 0);
        places("fifths shrunk", p, 3, 0, 0, -1, -1, -2);
        p.kern(-7);
        for (int i = 0; i < 4; i++) {
            p.glue(0, 1, 0, 1, 0);
        }
        p.pack(false, 2, 2, 0);
        places("the share is rounded, not the place", p, 4, 0, -7, -6, -6, -5);
    }

    private static void orders() {
        BoxPacker p = new BoxPacker();
        p.glue(10, 5, 0, 5, 2);
        p.glue(10, 6, 1, 6, 1);
        p.glue(10, 7, 2, 7, 0);
        p.kern(0);
        p.pack(false, 2, 9, 0);
        places("stretch of order 2 alone", p, 0, 0, 10, 20, 39);
        p.glue(10, 5, 0, 5, 2);
        p.glue(10, 6, 1, 6, 1);
        p.glue(10, 7, 2, 7, 0);
        p.kern(0);
        p.pack(false, 2, -9, 0);
        places("shrink of order 2 alone", p, 1, 0, 1, 11, 21);
        p.glue(10, 0, 3, 1, 0);
        p.kern(0);
        p.pack(false, 2, 9, 0);
        places("no stretch at all", p, 2, 0, 10);
        p.glue(10, 3, 0, 1, 0);
        p.kern(0);
        p.pack(false, 2, 9, 0);
        places("stretched by more than its stretch", p, 3, 0, 19);
    }

    private static void overfull() {
        BoxPacker p = new BoxPacker();
        p.glue(10, 9, 3, 2, 0);
        p.glue(10, 9, 3, 1, 0);
        p.kern(0);
        p.pack(false, 2, -8, 0);
        places("overfull: the shrink there is", p, 0, 0, 8, 17);
        p.glue(10, 9, 3, 2, 1);
        p.glue(10, 9, 3, 2, 1);
        p.kern(0);
        p.pack(false, 2, -8, 0);
        places("order 1 shrinks without end", p, 1, 0, 6, 12);
        p.kern(10);
        p.glue(0, 1, 0, 0, 0);
        p.kern(0);
        p.pack(true, 2, -8, 0);
        places("nothing to shrink", p, 2, 0, 10, 10);
    }

    private static void farPlaces() {
        BoxPacker p = new BoxPacker();
        p.glue(0, 1, 0, 0, 0);
        p.kern(MAX);
        p.kern(-MAX);
        p.pack(false, 2, MAX, 0);
        places("the greatest", p, 0, 0, MAX, 2 * MAX);
        p.glue(0, 0, 0, MAX, 0);
        p.kern(-MAX);
        p.kern(MAX);
        p.pack(true, 2, -MAX, 0);
        places("the least", p, 1, 0, -MAX, -2 * MAX);
    }

    private static void exactRounding() {
        BoxPacker p = new BoxPacker();
        p.glue(0, 536870911, 0, 0, 0);
        p.glue(0, 536870911, 0, 0, 0);
        p.kern(0);
        p.pack(false, 2, MAX, 0);
        places("half of an odd excess", p, 0, 0, 536870912, MAX);
        p.glue(0, 536870911, 0, 536870911, 0);
        p.glue(0, 536870912, 0, 536870912, 0);
        p.kern(0);
        p.pack(false, 2, MAX - 1, 0);
        // 536870911 * (MAX - 1) / MAX is 536870911 - 0.49..; the glue behind is 0.50.. short.
        places("just above a half", p, 1, 0, 536870911, MAX - 1);
        p.glue(0, 0, 0, 536870912, 3);
        p.glue(0, 0, 0, 536870911, 3);
        p.kern(0);
        p.pack(false, 2, 1 - MAX, 0);
        places("just below a half", p, 2, 0, -536870911, 1 - MAX);
    }

    private static void wrongArguments() {
        BoxPacker p = new BoxPacker();
        p.kern(1);
        p.kern(2);
        p.pack(false, 0, 0, 0);
        p.kern(3);
        CHECK.refusedIndex("place, item -1", () -> p.place(0, -1));
        CHECK.refusedIndex("place, item 2 of 2", () -> p.place(0, 2));
        CHECK.refusedIndex("place, box -1", () -> p.place(-1, 0));
        CHECK.refusedIndex("place, box 1 of 1", () -> p.place(1, 0));
        CHECK.refusedIndex("place, greatest", () -> p.place(Integer.MAX_VALUE, Integer.MAX_VALUE));
        CHECK.refusedIndex("place, least", () -> p.place(Integer.MIN_VALUE, Integer.MIN_VALUE));
        CHECK.same("place still", p.place(0, 1), 1);
    }
}
