import java.util.ArrayList;
import java.util.List;

/**
 * Tells whether a refused call left something behind. The calls before it are made on two new objects,
 * the refused one on the first of them alone; whatever is asked then, both must answer alike.
 */
final class Trace {
    private static final int FILES = 8;
    private static final int PLACES = 3;
    private static final int CHUNKS = 30;
    private static final int SERVERS = 5;
    private static final int CLIENTS = 3;

    private static final List<List<Call>> QUESTIONS = questions();

    private Trace() {}

    /** What tells the refused call's trace, or nothing if there is none. */
    static String of(List<Call> before, Call refused, String got) {
        List<Call> with = new ArrayList<>(before);
        with.add(refused);
        List<Call> without = new ArrayList<>(before);
        if (isDoneInPart(refused, got)) {
            without.add(locating(refused));
        }
        for (List<Call> questions : QUESTIONS) {
            String difference = difference(after(with), after(without), upTo(questions, with.size()));
            if (!difference.isEmpty()) {
                return difference;
            }
        }
        return "";
    }

    /** A read that found where the chunk is, and was refused by the server then, keeps what it found. */
    private static boolean isDoneInPart(Call refused, String got) {
        boolean byServer = got.equals("throws UnsupportedOperationException")
                || got.equals("throws IllegalStateException");
        return refused.method().getName().equals("read") && byServer;
    }

    private static Call locating(Call read) {
        Object[] arguments = read.arguments();
        return Call.of("locate(" + arguments[0] + ", " + arguments[1] + ", " + arguments[2] + ")");
    }

    private static ChunkStore after(List<Call> calls) {
        ChunkStore store = new ChunkStore();
        for (Call call : calls) {
            call.answer(store);
        }
        return store;
    }

    private static List<Call> upTo(List<Call> questions, int callsBefore) {
        int room = Math.max(0, Script.MOST_CALLS - callsBefore);
        return questions.subList(0, Math.min(room, questions.size()));
    }

    private static String difference(ChunkStore with, ChunkStore without, List<Call> questions) {
        for (Call question : questions) {
            String got = question.answer(with);
            String due = question.answer(without);
            if (!got.equals(due)) {
                return question.text() + " " + got + ", without it " + due;
            }
        }
        return "";
    }

    private static List<List<Call>> questions() {
        List<List<Call>> all = new ArrayList<>();
        all.add(views());
        all.add(sweeps());
        for (int third = 0; third < 3; third++) {
            all.add(replicas(third));
            all.add(leases(third));
        }
        for (int client = 0; client < CLIENTS; client++) {
            all.add(kept(client));
            all.add(keptFor(client));
        }
        return all;
    }

    private static Call call(String name, Object... arguments) {
        List<String> texts = new ArrayList<>();
        for (Object argument : arguments) {
            texts.add(argument.toString());
        }
        return Call.of(name + "(" + String.join(", ", texts) + ")");
    }

    private static List<Call> views() {
        List<Call> calls = new ArrayList<>();
        calls.add(call("tick", 0.0));
        calls.add(call("load"));
        for (int what = 0; what <= 4; what++) {
            for (int file = 0; file < FILES; file++) {
                calls.add(call("file", file, what));
            }
            for (int chunk = 0; chunk < CHUNKS; chunk++) {
                calls.add(call("chunk", chunk, what));
            }
        }
        return calls;
    }

    private static List<Call> replicas(int third) {
        List<Call> calls = new ArrayList<>();
        for (int chunk = 0; chunk < CHUNKS; chunk++) {
            for (int server = 0; server < SERVERS; server++) {
                calls.add(call("look", server, chunk, 2 * third));
                calls.add(call("look", server, chunk, 2 * third + 1));
            }
        }
        return calls;
    }

    /** When leases end. */
    private static List<Call> leases(int third) {
        List<Call> calls = new ArrayList<>();
        for (int step = 0; step < 21; step++) {
            calls.add(call("tick", 0.5));
            for (int chunk = 10 * third; chunk < 10 * third + 10; chunk++) {
                calls.add(call("chunk", chunk, 4));
            }
        }
        return calls;
    }

    /** Since when files are hidden, and which of them can be restored still. */
    private static List<Call> sweeps() {
        List<Call> calls = new ArrayList<>();
        for (int step = 0; step < 61; step++) {
            calls.add(call("tick", 0.5));
            calls.add(call("sweep"));
        }
        for (int file = 0; file < FILES; file++) {
            calls.add(call("restore", file));
        }
        return calls;
    }

    /** What a client keeps. */
    private static List<Call> kept(int client) {
        List<Call> calls = new ArrayList<>();
        for (int file = 0; file < FILES; file++) {
            for (int place = 0; place < PLACES; place++) {
                calls.add(call("locate", client, file, place));
                for (int server = 0; server < SERVERS; server++) {
                    calls.add(call("read", client, file, place, 0, server));
                }
            }
        }
        return calls;
    }

    /** How long a client keeps it: all versions rise first, so that what it finds anew is another. */
    private static List<Call> keptFor(int client) {
        List<Call> calls = new ArrayList<>();
        for (int server = 0; server < SERVERS; server++) {
            calls.add(call("up", server, false));
            for (int file = 0; file < FILES; file++) {
                calls.add(call("append", file, 1));
                calls.add(call("write", file, 0, 0, 1));
            }
            calls.add(call("up", server, true));
        }
        for (int step = 0; step < 11; step++) {
            for (int file = 0; file < FILES; file++) {
                for (int place = 0; place < PLACES; place++) {
                    calls.add(call("locate", client, file, place));
                }
            }
            calls.add(call("tick", 0.5));
        }
        return calls;
    }
}
