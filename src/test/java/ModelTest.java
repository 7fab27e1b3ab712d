import java.lang.reflect.Method;
import java.util.ArrayDeque;
import java.util.Deque;
import java.util.Map;
import java.util.Random;

/** Runs of up to 512 calls, always the same ones, each answer compared with PlainModel's. */
public final class ModelTest {
    private static final int RUNS = 1500;
    private static final int CALLS = 512;
    private static final int TOLD = 12;
    private static final int RUNNING = BoxPacker.RUNNING;
    private static final int MAX = 1073741823;
    private static final Map<String, Method> REAL = Calls.methods(BoxPacker.class);
    private static final Map<String, Method> MODEL = Calls.methods(PlainModel.class);
    private static final Check CHECK = new Check();

    private final Random random;
    private final int span;
    private final boolean nesting;
    private final BoxPacker real = new BoxPacker();
    private final PlainModel model = new PlainModel();
    private final Deque<String> last = new ArrayDeque<>();
    private int calls = 0;
    private boolean wrong = false;

    private ModelTest(int seed) {
        random = new Random(seed);
        int[] spans = {4, 60, 100000, 20000000, MAX};
        span = spans[seed % spans.length];
        nesting = seed % 7 == 0;
    }

    public static void main(String[] args) {
        for (int seed = 0; seed < RUNS; seed++) {
            new ModelTest(seed).run(seed);
        }
        CHECK.finish();
    }

    private void run(int seed) {
        while (going()) {
            int items = nesting ? 1 + random.nextInt(14) : random.nextInt(random.nextInt(6) == 0 ? 110 : 12);
            for (int i = 0; i < items && going(); i++) {
                addItem();
            }
            if (random.nextInt(8) == 0) {
                call("keep", random.nextInt(9) == 0 ? random.nextInt(130) - 10
                    : random.nextInt(model.items() + 1));
            }
            call("items");
            int before = model.boxes();
            call("pack", random.nextBoolean(), random.nextInt(40) == 0 ? anyInt() : random.nextInt(3),
                size(), random.nextInt(3) == 0 ? MAX : size());
            call("boxes");
            if (model.boxes() > before) {
                lookAt(before);
            } else {
                call("keep", model.items() / 2);
            }
            strayCall();
        }
        if (wrong) {
            CHECK.report("run " + seed + ": the last calls were " + last);
        }
    }

    private boolean going() {
        return calls < CALLS && !wrong;
    }

    private void addItem() {
        int kind = random.nextInt(nesting ? 20 : 10);
        if (kind < 2) {
            call("leaf", wrongNow() ? anyInt() : random.nextInt(65536), size(), size(), size());
        } else if (kind < 4) {
            call("rule", ruleSize(), ruleSize(), ruleSize());
        } else if (kind < 7) {
            call("glue", size(), give(), order(), give(), order());
        } else if (kind < 8) {
            call("kern", size());
        } else if (nesting) {
            call("box", wrongNow() ? anyInt() : model.boxes() - 1, wrongNow() ? anyInt() : 0);
        } else {
            call("box", wrongNow() ? anyInt() : random.nextInt(model.boxes() + 1), size());
        }
    }

    private void lookAt(int box) {
        for (int what = 0; what <= 10; what++) {
            call("of", box, what);
        }
        int items = random.nextInt(3) == 0 ? model.of(box, 9) : Math.min(4, model.of(box, 9));
        for (int i = 0; i < items; i++) {
            call("place", box, random.nextBoolean() ? i : random.nextInt(model.of(box, 9)));
        }
        Object marks = call("lay", box, size(), size());
        int count = marks instanceof Integer n ? n : 0;
        for (int i = 0; i < Math.min(4, count); i++) {
            int mark = random.nextInt(count);
            for (int what = 0; what < 6; what++) {
                call("mark", mark, what);
            }
        }
        call("mark", count, 0);
    }

    private void strayCall() {
        switch (random.nextInt(8)) {
            case 0: call("of", anyInt(), anyInt()); break;
            case 1: call("place", anyInt(), anyInt()); break;
            case 2: call("lay", random.nextInt(model.boxes() + 2) - 1, anyInt(), anyInt()); break;
            case 3: call("mark", anyInt(), anyInt()); break;
            case 4: call("keep", anyInt()); break;
            default: break;
        }
    }

    private boolean wrongNow() {
        return random.nextInt(60) == 0;
    }

    private int anyInt() {
        int[] edges = {-1, 0, 1, 4, 6, 11, 65535, 65536, MAX, -MAX, MAX + 1, RUNNING, RUNNING - 1,
            Integer.MAX_VALUE, Integer.MIN_VALUE};
        return random.nextInt(4) == 0 ? random.nextInt() : edges[random.nextInt(edges.length)];
    }

    private int size() {
        if (random.nextInt(400) == 0) {
            return anyInt();
        }
        if (random.nextInt(40) == 0) {
            return random.nextBoolean() ? MAX - random.nextInt(3) : random.nextInt(3) - MAX;
        }
        int n = random.nextInt(span);
        return random.nextInt(3) == 0 ? -n : n;
    }

    private int ruleSize() {
        return random.nextInt(3) == 0 ? RUNNING : size();
    }

    private int give() {
        if (random.nextInt(400) == 0) {
            return anyInt();
        }
        return random.nextInt(4) == 0 ? 0 : random.nextInt(random.nextInt(3) == 0 ? span : span / 4 + 1);
    }

    private int order() {
        if (random.nextInt(400) == 0) {
            return anyInt();
        }
        return random.nextInt(3) == 0 ? random.nextInt(4) : 0;
    }

    private Object call(String name, Object... arguments) {
        if (!going()) {
            return null;
        }
        calls++;
        Object due = Calls.answer(MODEL.get(name), model, arguments);
        Object got = Calls.answer(REAL.get(name), real, arguments);
        String text = Calls.text(name, arguments) + " -> " + got;
        last.add(text);
        if (last.size() > TOLD) {
            last.remove();
        }
        if (!due.equals(got)) {
            wrong = true;
            CHECK.report(text + ", due is " + due);
        }
        return got;
    }
}
