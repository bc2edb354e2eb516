import java.util.Random;
import java.util.TreeMap;
import java.util.function.Supplier;

/**
 * Runs of arbitrary calls, always the same ones, on a ChunkStore and on a Model: every answer and every
 * exception must be equal, and from time to time all that can be seen of the state.
 */
public final class ModelTest {
    private static final int RUNS = 300;
    private static final int CALLS = 512;
    private static final int SHOWN = 20;
    private static final double[] SPANS =
            {0.0, 0.1, 0.5, 1.0, 2.5, 4.9, 5.0, 9.9, 10.0, 15.0, 29.5, 30.0, 100.0, -0.5, 100.5, Double.NaN};
    private static final int[] VALUES = {0, 1, -1, 7, Integer.MAX_VALUE, Integer.MIN_VALUE};

    private final TreeMap<String, Integer> outcomes = new TreeMap<>();
    private int wrong;
    private Random random;
    private ChunkStore store;
    private Model model;
    private int run;
    private int busyFiles;
    private int changeRate;

    public static void main(String[] args) {
        ModelTest test = new ModelTest();
        for (int run = 0; run < RUNS; run++) {
            test.play(run);
        }
        test.finish();
    }

    private void play(int number) {
        run = number;
        random = new Random(number);
        store = new ChunkStore();
        model = new Model();
        busyFiles = 1 + random.nextInt(8);
        changeRate = 1 + random.nextInt(12);
        for (int i = 0; i < CALLS; i++) {
            call();
            if (i % 128 == 127) {
                compareState();
            }
        }
    }

    /** Mostly a number of the range, at times one just outside or far from it. */
    private int number(int count) {
        if (random.nextInt(120) != 0) {
            return random.nextInt(count);
        }
        int[] outside = {-1, count, Integer.MIN_VALUE, Integer.MAX_VALUE};
        return outside[random.nextInt(outside.length)];
    }

    private int anyFile() {
        return random.nextInt(10) == 0 ? number(8) : number(busyFiles);
    }

    private void call() {
        int kind = random.nextInt(40);
        if (kind < 12) {
            callOnWords();
        } else if (kind < 24) {
            callOnFiles();
        } else if (kind < 34) {
            callOnServers();
        } else if (kind < 38) {
            double by = random.nextInt(changeRate) == 0
                    ? SPANS[random.nextInt(SPANS.length)]
                    : random.nextInt(20) / 10.0;
            compare("tick(" + by + ")", () -> store.tick(by), () -> model.tick(by));
        } else {
            compare("sweep()", () -> store.sweep(), () -> model.sweep());
        }
    }

    private void callOnWords() {
        int client = number(3);
        int file = anyFile();
        int place = random.nextInt(4) == 0 ? number(3) : number(2);
        int word = number(4);
        int server = number(5);
        int value = VALUES[random.nextInt(VALUES.length)] + run;
        switch (random.nextInt(5)) {
            case 0, 1 -> compare("write(" + file + ", " + place + ", " + word + ", " + value + ")",
                    () -> store.write(file, place, word, value),
                    () -> model.write(file, place, word, value));
            case 2 -> compare("append(" + file + ", " + value + ")",
                    () -> store.append(file, value), () -> model.append(file, value));
            case 3 -> compare("read(" + client + ", " + file + ", " + place + ", " + word + ", " + server + ")",
                    () -> store.read(client, file, place, word, server),
                    () -> model.read(client, file, place, word, server));
            default -> compare("locate(" + client + ", " + file + ", " + place + ")",
                    () -> store.locate(client, file, place), () -> model.locate(client, file, place));
        }
    }

    private void callOnFiles() {
        int file = anyFile();
        int to = number(8);
        switch (random.nextInt(8)) {
            case 0, 1, 2 -> compare("create(" + file + ")", () -> store.create(file), () -> model.create(file));
            case 3 -> compare("remove(" + file + ")", () -> store.remove(file), () -> model.remove(file));
            case 4 -> compare("restore(" + file + ")", () -> store.restore(file), () -> model.restore(file));
            case 5 -> compare("copy(" + file + ", " + to + ")",
                    () -> store.copy(file, to), () -> model.copy(file, to));
            default -> compare("extend(" + file + ")", () -> store.extend(file), () -> model.extend(file));
        }
    }

    private void callOnServers() {
        int server = number(5);
        boolean on = random.nextInt(changeRate + 1) != 0;
        switch (random.nextInt(5)) {
            case 0, 1 -> compare("up(" + server + ", " + on + ")",
                    () -> store.up(server, on), () -> model.up(server, on));
            case 2 -> compare("report(" + server + ")", () -> store.report(server), () -> model.report(server));
            case 3 -> compare("repair()", () -> store.repair(), () -> model.repair());
            default -> compare("load()", () -> store.load(), () -> model.load());
        }
    }

    /** Views change nothing here, so they are asked beyond the 512 calls, though the document leaves that free. */
    private void compareState() {
        for (int i = -1; i <= 30; i++) {
            for (int what = -1; what <= 6; what++) {
                compareViews(i, what);
            }
        }
    }

    private void compareViews(int i, int what) {
        compare("chunk(" + i + ", " + what + ")", () -> store.chunk(i, what), () -> model.chunk(i, what));
        for (int s = -1; s <= 5; s++) {
            int server = s;
            compare("look(" + server + ", " + i + ", " + what + ")",
                    () -> store.look(server, i, what), () -> model.look(server, i, what));
        }
        if (i <= 8) {
            compare("file(" + i + ", " + what + ")", () -> store.file(i, what), () -> model.file(i, what));
        }
    }

    private static String outcome(Supplier<Number> call) {
        try {
            return call.get().toString();
        } catch (RuntimeException e) {
            return "throws " + e.getClass().getSimpleName();
        }
    }

    private void compare(String name, Supplier<Number> asked, Supplier<Number> due) {
        String got = outcome(asked);
        String want = outcome(due);
        String kind = name.substring(0, name.indexOf('(')) + (want.startsWith("throws") ? " " + want : "");
        outcomes.merge(kind, 1, Integer::sum);
        if (!got.equals(want)) {
            wrong++;
            if (wrong <= SHOWN) {
                System.out.println("run " + run + ": " + name + " answered " + got + ", due is " + want);
            }
        }
    }

    /** Runs that never came to some exception of the document would say too little. */
    private void finish() {
        String[] kinds = {
            "create", "create throws IllegalArgumentException", "create throws IllegalStateException",
            "remove", "remove throws IllegalArgumentException", "remove throws NoSuchElementException",
            "restore", "restore throws IllegalArgumentException", "restore throws NoSuchElementException",
            "copy", "copy throws IllegalArgumentException", "copy throws NoSuchElementException",
            "copy throws IllegalStateException",
            "extend", "extend throws IllegalArgumentException", "extend throws NoSuchElementException",
            "extend throws IllegalStateException", "extend throws IndexOutOfBoundsException",
            "locate", "locate throws IllegalArgumentException", "locate throws NoSuchElementException",
            "locate throws IndexOutOfBoundsException",
            "write", "write throws IllegalArgumentException", "write throws NoSuchElementException",
            "write throws IllegalStateException", "write throws UnsupportedOperationException",
            "write throws IndexOutOfBoundsException",
            "append", "append throws IllegalArgumentException", "append throws NoSuchElementException",
            "append throws IllegalStateException", "append throws UnsupportedOperationException",
            "append throws IndexOutOfBoundsException",
            "read", "read throws IllegalArgumentException", "read throws NoSuchElementException",
            "read throws IllegalStateException", "read throws UnsupportedOperationException",
            "read throws IndexOutOfBoundsException",
            "up", "up throws IllegalArgumentException",
            "report", "report throws IllegalArgumentException", "report throws IllegalStateException",
            "repair", "repair throws NoSuchElementException", "sweep",
            "tick", "tick throws IllegalArgumentException", "load", "load throws ArithmeticException",
            "look", "look throws IllegalArgumentException", "look throws NoSuchElementException",
            "file", "file throws IllegalArgumentException",
            "chunk", "chunk throws IllegalArgumentException", "chunk throws NoSuchElementException"
        };
        for (String kind : kinds) {
            if (!outcomes.containsKey(kind)) {
                wrong++;
                System.out.println("no run came to: " + kind);
            }
        }
        System.out.println(wrong == 0 ? "all answers are as due" : wrong + " answers are not as due");
        if (wrong != 0) {
            System.exit(1);
        }
    }
}
