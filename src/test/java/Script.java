import java.util.ArrayList;
import java.util.List;

/**
 * Runs calls, written one a line, on a new ChunkStore and prints every answer that is not due:
 * "create(0) = 1" for an answer, "create(8) throws IllegalArgumentException" for an exception.
 * After each refused call it looks, with Trace, whether something changed that should not have.
 */
final class Script {
    /** The document says nothing of an object after so many calls. */
    static final int MOST_CALLS = 512;

    private final Faults faults = new Faults();

    void run(String title, String calls) {
        ChunkStore store = new ChunkStore();
        List<Call> before = new ArrayList<>();
        for (String line : calls.strip().split("\n")) {
            if (!line.isBlank()) {
                check(title, store, line.strip(), before);
            }
        }
        faults.expect(before.size() <= MOST_CALLS, title + ": has " + before.size() + " calls");
    }

    void finish() {
        faults.finish();
    }

    private void check(String title, ChunkStore store, String line, List<Call> before) {
        int close = line.indexOf(')');
        Call call = Call.of(line.substring(0, close + 1));
        String due = line.substring(close + 1).strip();
        String got = call.answer(store);
        faults.expect(got.equals(due), title + ": " + call.text() + " " + got + ", due is " + due);
        if (got.startsWith("throws")) {
            checkTrace(title, before, call, got);
        }
        before.add(call);
    }

    private void checkTrace(String title, List<Call> before, Call refused, String got) {
        String trace = Trace.of(before, refused, got);
        faults.expect(trace.isEmpty(), title + ": " + refused.text() + " " + got + ", but then " + trace);
    }
}
