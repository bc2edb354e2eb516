import java.util.ArrayList;
import java.util.List;

/**
 * Runs calls, written one a line, on a new ChunkStore and prints every answer that is not due:
 * "create(0) = 1" for an answer, "create(8) throws IllegalArgumentException" for an exception.
 * After each refused call it looks, with Trace, whether something changed that should not have.
 */
final class Script {
    /** The document says nothing of an object after so many calls. */
    static final int MOST_CALLS = 512;

    private int wrong;

    void run(String title, String calls) {
        ChunkStore store = new ChunkStore();
        List<Call> before = new ArrayList<>();
        for (String line : calls.strip().split("\n")) {
            if (!line.isBlank()) {
                check(title, store, line.strip(), before);
            }
        }
        if (before.size() > MOST_CALLS) {
            complain(title + ": has " + before.size() + " calls");
        }
    }

    void finish() {
        System.out.println(wrong == 0 ? "all answers are as due" : wrong + " answers are not as due");
        if (wrong != 0) {
            System.exit(1);
        }
    }

    private void check(String title, ChunkStore store, String line, List<Call> before) {
        int close = line.indexOf(')');
        Call call = Call.of(line.substring(0, close + 1));
        String due = line.substring(close + 1).strip();
        String got = call.answer(store);
        if (!got.equals(due)) {
            complain(title + ": " + call.text() + " " + got + ", due is " + due);
        }
        if (got.startsWith("throws")) {
            checkTrace(title, before, call, got);
        }
        before.add(call);
    }

    private void checkTrace(String title, List<Call> before, Call refused, String got) {
        String trace = Trace.of(before, refused, got);
        if (!trace.isEmpty()) {
            complain(title + ": " + refused.text() + " " + got + ", but then " + trace);
        }
    }

    private void complain(String text) {
        wrong++;
        System.out.println(text);
    }
}
