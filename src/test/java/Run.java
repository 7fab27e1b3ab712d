import java.util.ArrayList;
import java.util.List;

/**
 * A run of calls on a new object, written as Step tells, each answer compared with what is due.
 * A run with refused calls is made a second time without them: what is called behind them must
 * answer as if they had not been.
 */
final class Run {
    private static final int MOST_CALLS = 512;

    private final Check check;
    private final String title;
    private final BoxPacker packer = new BoxPacker();

    private Run(Check check, String title) {
        this.check = check;
        this.title = title;
    }

    static void make(Check check, String title, String... rows) {
        make(check, title, Step.read(rows));
    }

    static void make(Check check, String title, List<Step> steps) {
        Run whole = new Run(check, title);
        whole.take(steps);
        List<Step> spared = new ArrayList<>();
        for (Step step : steps) {
            if (!step.isRefusal()) {
                spared.add(step);
            }
        }
        if (spared.size() < steps.size()) {
            Run without = new Run(check, title + " (without the refused calls)");
            without.take(spared);
            int left = MOST_CALLS - steps.size();
            check.isTrue(title + ": afterwards all is as if the refused calls had not been",
                whole.aftermath(left).equals(without.aftermath(left)));
        }
    }

    private void take(List<Step> steps) {
        check.isTrue(title + ": has at most 512 calls", steps.size() <= MOST_CALLS);
        int calls = 0;
        for (Step step : steps) {
            calls++;
            Object got = step.answer(packer);
            if (!step.isMetBy(got)) {
                check.report(title + ": call " + calls + ", " + step + " answered " + got + ", due is "
                    + (step.due() == null ? "an answer" : step.due()));
            }
        }
    }

    /** What the object answers, with some calls left, and its list too, which is seen only once packed. */
    private List<String> aftermath(int calls) {
        List<String> answers = new ArrayList<>();
        long items = ask(answers, calls, "items");
        long boxes = ask(answers, calls, "boxes");
        for (int what = 0; what < 6; what++) {
            ask(answers, calls, "mark 0 " + what);
        }
        lookAt(answers, calls, boxes - 1);
        for (long kept = items; kept > 0; kept = kept / 2) {
            ask(answers, calls, "keep " + kept);
            ask(answers, calls, "pack along 0 0 0");
            ask(answers, calls, "pack below 0 0 MAX");
        }
        lookAt(answers, calls, boxes);
        lookAt(answers, calls, boxes + 1);
        return answers;
    }

    private void lookAt(List<String> answers, int calls, long box) {
        for (int what = 0; what < 11; what++) {
            ask(answers, calls, "of " + box + " " + what);
        }
        ask(answers, calls, "lay " + box + " 0 0");
        for (int i = 0; i < 10; i++) {
            ask(answers, calls, "place " + box + " " + i);
            for (int what = 0; what < 6; what++) {
                ask(answers, calls, "mark " + i + " " + what);
            }
        }
    }

    private long ask(List<String> answers, int calls, String call) {
        if (answers.size() >= calls) {
            return 0;
        }
        Object got = Step.read(call).get(0).answer(packer);
        answers.add(call + " " + got);
        return got instanceof Long n ? n : 0;
    }
}
