import java.lang.reflect.Method;
import java.util.ArrayList;
import java.util.List;
import java.util.Map;

/**
 * One call of a run and what is due to it: an answer, an exception, or (due is null) any answer.
 *
 * <p>A run is written as calls with semicolons between them, each with its arguments behind it:
 * "kern MAX; kern 1; pack along 0 0 0 ! state; keep 1 = true". Behind = stands the answer that is
 * due, behind ! the exception; "3 * kern 1" is three calls; sizes, fit, counts, places and marked
 * stand for as many calls of of, place or mark as there are answers. along and below are pack's
 * false and true; MAX is the greatest size, and MAX+1, -MAX-1 and their like are numbers too.
 */
record Step(String name, Object[] arguments, Object due) {
    private static final Map<String, Method> METHODS = Calls.methods(BoxPacker.class);
    private static final Map<String, String> EXCEPTIONS = Map.of(
        "argument", "throws.IllegalArgumentException",
        "index", "throws.IndexOutOfBoundsException",
        "too much", "throws.UnsupportedOperationException",
        "state", "throws.IllegalStateException");
    private static final Map<String, String> SEVERAL = Map.of(
        "sizes", "of 0", "fit", "of 3", "counts", "of 8", "places", "place 0", "marked", "mark 0");

    static List<Step> read(String... rows) {
        List<Step> steps = new ArrayList<>();
        for (String row : rows) {
            for (String call : row.split(";")) {
                addCalls(steps, call.strip());
            }
        }
        return steps;
    }

    private static void addCalls(List<Step> steps, String text) {
        int times = 1;
        String call = text;
        int star = text.indexOf(" * ");
        if (star > 0) {
            times = Integer.parseInt(text.substring(0, star));
            call = text.substring(star + 3);
        }
        String[] answered = call.split(" = ");
        String[] refused = call.split(" ! ");
        for (int i = 0; i < times; i++) {
            if (answered.length == 2) {
                addAnswered(steps, answered[0].split(" "), answered[1].split(" "));
            } else if (refused.length == 2) {
                steps.add(step(refused[0].split(" "), refused(refused[1])));
            } else {
                steps.add(step(call.split(" "), null));
            }
        }
    }

    private static Object refused(String word) {
        String exception = EXCEPTIONS.get(word);
        if (exception == null) {
            throw new IllegalArgumentException("no such exception: " + word);
        }
        return exception;
    }

    private static void addAnswered(List<Step> steps, String[] call, String[] answers) {
        String several = SEVERAL.get(call[0]);
        if (several == null) {
            steps.add(step(call, value(answers[0])));
            return;
        }
        String[] nameAndFirst = several.split(" ");
        int first = Integer.parseInt(nameAndFirst[1]);
        for (int i = 0; i < answers.length; i++) {
            String[] one = {nameAndFirst[0], call[1], String.valueOf(first + i)};
            steps.add(step(one, value(answers[i])));
        }
    }

    private static Step step(String[] call, Object due) {
        Method method = METHODS.get(call[0]);
        if (method == null || method.getParameterCount() != call.length - 1) {
            throw new IllegalArgumentException("no such call: " + String.join(" ", call));
        }
        Object[] arguments = new Object[call.length - 1];
        for (int i = 0; i < arguments.length; i++) {
            Object given = value(call[i + 1]);
            arguments[i] = given instanceof Long n ? (Object) Math.toIntExact(n) : given;
        }
        return new Step(call[0], arguments, due);
    }

    private static Object value(String word) {
        switch (word) {
            case "true": case "below": return true;
            case "false": case "along": return false;
            default: return number(word);
        }
    }

    private static Object number(String word) {
        String plain = word.replace("RUNNING", "-MAX-1").replace("NONE", "-1")
            .replace("INT_MAX", "MAX+1073741824").replace("INT_MIN", "-MAX-1073741825");
        int max = plain.indexOf("MAX");
        if (max < 0) {
            return Long.parseLong(plain);
        }
        long base = max == 0 ? 1073741823L : -1073741823L;
        String more = plain.substring(max + 3);
        return more.isEmpty() ? base : base + Long.parseLong(more);
    }

    boolean isRefusal() {
        return due instanceof String;
    }

    Object answer(BoxPacker packer) {
        Object got = Calls.answer(METHODS.get(name), packer, arguments);
        return got instanceof Integer n ? (Object) n.longValue() : got;
    }

    boolean isMetBy(Object answer) {
        return due == null ? !(answer instanceof String) : due.equals(answer);
    }

    @Override
    public String toString() {
        return Calls.text(name, arguments);
    }
}
