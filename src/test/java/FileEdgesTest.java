/** Boundary cases of the promises on files and time (1 to 5, 14, 15, 18), a run for each sentence. */
public final class FileEdgesTest {
    private static final int LOW = Integer.MIN_VALUE;
    private static final int HIGH = Integer.MAX_VALUE;
    private static final Script SCRIPT = new Script();

    public static void main(String[] args) {
        newObject();
        create();
        remove();
        restore();
        copy();
        copyOfNoneToThree();
        sweep();
        sweepOfSharedChunks();
        tick();
        file();
        SCRIPT.finish();
    }

    private static void newObject() {
        StringBuilder none = new StringBuilder();
        for (int file = 0; file < 8; file++) {
            none.append("remove(" + file + ") throws NoSuchElementException\n");
            none.append("restore(" + file + ") throws NoSuchElementException\n");
            none.append("file(" + file + ", 1) = 0\n");
            none.append("file(" + file + ", 2) = -1\n");
        }
        SCRIPT.run("Promise 1: No FILES", none.toString());
        SCRIPT.run("Promise 1: No FILES: nothing to do", """
            sweep() = 0
            repair() throws NoSuchElementException
            load() = 0.0
            chunk(0, 0) throws NoSuchElementException
            chunk(29, 0) throws NoSuchElementException
            look(0, 0, 0) throws NoSuchElementException
            look(4, 29, 5) throws NoSuchElementException
            """);
        SCRIPT.run("Promise 1: an object that is used", Runs.chunksMade(30));
        SCRIPT.run("Promise 1: No FILES, though another object has some", """
            tick(0.0) = 0.0
            load() = 0.0
            create(0) = 1
            extend(0) = 0
            chunk(0, 2) = 7
            """);
    }

    private static void create() {
        SCRIPT.run("Promise 2: file 0 .. 7", Runs.outOfRange("create(N)", LOW, -1, 8, HIGH) + """
            create(0) = 1
            create(7) = 2
            create(-1) throws IllegalArgumentException
            create(8) throws IllegalArgumentException
            """);
        SCRIPT.run("Promise 2: file 0 .. 7: what stands stays", Runs.manifold()
                + Runs.outOfRange("create(N)", -1, 8));
        SCRIPT.run("Promise 2: It is not NONE: THERE", Runs.manifold() + """
            create(0) throws IllegalStateException
            create(1) throws IllegalStateException
            create(7) throws IllegalStateException
            file(0, 1) = 2
            """);
        SCRIPT.run("Promise 2: It is not NONE: HIDDEN, till it is swept", """
            create(3) = 1
            extend(3) = 0
            remove(3) = 1
            create(3) throws IllegalStateException
            tick(30.0) = 30.0
            create(3) throws IllegalStateException
            file(3, 0) = 2
            sweep() = 1
            create(3) = 1
            file(3, 0) = 1
            """);
        SCRIPT.run("Promise 2: its row empty, though it had one before", """
            create(3) = 1
            extend(3) = 0
            extend(3) = 1
            extend(3) = 2
            remove(3) = 3
            tick(30.0) = 30.0
            sweep() = 1
            create(3) = 1
            file(3, 1) = 0
            file(3, 2) = -1
            file(3, 3) = -1
            file(3, 4) = -1
            extend(3) = 3
            file(3, 1) = 1
            """);
        SCRIPT.run("Promise 2: Answers how many are THERE, 1 to 8, without HIDDEN ones", Runs.creates(7) + """
            remove(0) = 0
            create(7) = 7
            remove(7) = 0
            restore(0) = 0
            tick(30.0) = 30.0
            sweep() = 1
            create(7) = 8
            """);
    }

    private static void remove() {
        SCRIPT.run("Promise 3: file 0 .. 7", Runs.outOfRange("remove(N)", LOW, -1, 8, HIGH) + """
            create(0) = 1
            create(7) = 2
            remove(-1) throws IllegalArgumentException
            remove(8) throws IllegalArgumentException
            remove(0) = 0
            remove(7) = 0
            """);
        SCRIPT.run("Promise 3: file 0 .. 7: what stands stays", Runs.manifold()
                + Runs.outOfRange("remove(N)", -1, 8));
        SCRIPT.run("Promise 3: It is not THERE: NONE", Runs.manifold() + """
            remove(3) throws NoSuchElementException
            file(3, 0) = 0
            """);
        SCRIPT.run("Promise 3: It is not THERE: HIDDEN, since when it was", """
            create(0) = 1
            remove(0) = 0
            tick(20.0) = 20.0
            remove(0) throws NoSuchElementException
            tick(10.0) = 30.0
            sweep() = 1
            remove(0) throws NoSuchElementException
            """);
        SCRIPT.run("Promise 3: It is HIDDEN since now", """
            tick(12.5) = 12.5
            create(0) = 1
            tick(7.5) = 20.0
            remove(0) = 0
            tick(29.5) = 49.5
            sweep() = 0
            tick(0.5) = 50.0
            sweep() = 1
            """);
        SCRIPT.run("Promise 3: It is HIDDEN since now, the second time", """
            create(0) = 1
            remove(0) = 0
            tick(29.0) = 29.0
            restore(0) = 0
            remove(0) = 0
            tick(29.5) = 58.5
            sweep() = 0
            tick(0.5) = 59.0
            sweep() = 1
            """);
        SCRIPT.run("Promise 3: Answers how many CHUNKS it has, none to 3", """
            create(0) = 1
            create(1) = 2
            create(2) = 3
            create(3) = 4
            extend(1) = 0
            extend(2) = 1
            extend(2) = 2
            extend(3) = 3
            extend(3) = 4
            extend(3) = 5
            remove(0) = 0
            remove(1) = 1
            remove(2) = 2
            remove(3) = 3
            chunk(5, 1) = 1
            """);
    }

    private static void restore() {
        SCRIPT.run("Promise 4: file 0 .. 7", Runs.outOfRange("restore(N)", LOW, -1, 8, HIGH) + """
            create(0) = 1
            create(7) = 2
            remove(0) = 0
            remove(7) = 0
            restore(-1) throws IllegalArgumentException
            restore(8) throws IllegalArgumentException
            restore(0) = 0
            restore(7) = 0
            """);
        SCRIPT.run("Promise 4: file 0 .. 7: what stands stays", Runs.manifold()
                + Runs.outOfRange("restore(N)", -1, 8));
        SCRIPT.run("Promise 4: It is not HIDDEN: NONE, at first and after a sweep", """
            restore(0) throws NoSuchElementException
            create(0) = 1
            extend(0) = 0
            remove(0) = 1
            tick(30.0) = 30.0
            sweep() = 1
            restore(0) throws NoSuchElementException
            file(0, 0) = 0
            """);
        SCRIPT.run("Promise 4: It is not HIDDEN: THERE", Runs.manifold() + """
            restore(0) throws NoSuchElementException
            restore(7) throws NoSuchElementException
            file(0, 0) = 1
            """);
        SCRIPT.run("Promise 4: It is THERE, however long it was HIDDEN, if it was not swept", """
            create(0) = 1
            append(0, 5) = 0
            remove(0) = 1
            tick(29.5) = 29.5
            sweep() = 0
            tick(100.0) = 129.5
            restore(0) = 1
            file(0, 0) = 1
            sweep() = 0
            append(0, 6) = 1
            read(0, 0, 0, 0, 0) = 5
            """);
        SCRIPT.run("Promise 4: Answers how many CHUNKS it has, none to 3", """
            create(0) = 1
            create(1) = 2
            extend(1) = 0
            extend(1) = 1
            extend(1) = 2
            remove(0) = 0
            remove(1) = 3
            restore(0) = 0
            restore(1) = 3
            file(1, 4) = 2
            """);
    }

    private static void copy() {
        SCRIPT.run("Promise 5: from and to 0 .. 7", Runs.outOfRange("copy(N, 0)", LOW, -1, 8, HIGH)
                + Runs.outOfRange("copy(0, N)", LOW, -1, 8, HIGH) + """
            create(0) = 1
            copy(0, -1) throws IllegalArgumentException
            copy(0, 8) throws IllegalArgumentException
            copy(-1, 7) throws IllegalArgumentException
            copy(8, 7) throws IllegalArgumentException
            copy(0, 7) = 0
            remove(0) = 0
            tick(30.0) = 30.0
            sweep() = 1
            copy(7, 0) = 0
            """);
        SCRIPT.run("Promise 5: from and to 0 .. 7: what stands stays", Runs.manifold()
                + Runs.outOfRange("copy(0, N)", -1, 8) + Runs.outOfRange("copy(N, 3)", -1, 8));
        SCRIPT.run("Promise 5: from is not THERE: NONE, or HIDDEN", Runs.manifold() + """
            copy(3, 4) throws NoSuchElementException
            copy(2, 4) throws NoSuchElementException
            copy(3, 3) throws NoSuchElementException
            file(4, 0) = 0
            """);
        SCRIPT.run("Promise 5: to is not NONE: THERE, or HIDDEN, or from", Runs.manifold() + """
            copy(0, 1) throws IllegalStateException
            copy(0, 7) throws IllegalStateException
            copy(0, 2) throws IllegalStateException
            copy(0, 0) throws IllegalStateException
            chunk(3, 4) = 1
            chunk(3, 1) = 1
            """);
        SCRIPT.run("Promise 5: from is not THERE is told before to is not NONE", Runs.manifold() + """
            copy(3, 0) throws NoSuchElementException
            copy(2, 2) throws NoSuchElementException
            """);
        SCRIPT.run("Promise 5: The CHUNKS of from have no LEASE any more, others have", """
            create(0) = 1
            create(1) = 2
            append(1, 1) = 0
            extend(0) = 1
            extend(0) = 2
            extend(0) = 3
            write(0, 0, 0, 1) = 2
            write(0, 1, 0, 1) = 2
            write(0, 2, 0, 1) = 2
            chunk(3, 4) = 1
            copy(0, 2) = 3
            chunk(1, 4) = 0
            chunk(2, 4) = 0
            chunk(3, 4) = 0
            chunk(0, 4) = 1
            write(1, 0, 0, 2) = 2
            """);
    }

    private static void copyOfNoneToThree() {
        SCRIPT.run("Promise 5: to is THERE with the same row, of none or 3: Answers how many", """
            create(0) = 1
            copy(0, 1) = 0
            file(1, 0) = 1
            file(1, 1) = 0
            extend(1) = 0
            file(0, 1) = 0
            extend(0) = 1
            extend(0) = 2
            extend(0) = 3
            copy(0, 2) = 3
            file(2, 0) = 1
            file(2, 1) = 3
            file(2, 2) = 1
            file(2, 3) = 2
            file(2, 4) = 3
            extend(2) throws IndexOutOfBoundsException
            create(3) = 4
            """);
        SCRIPT.run("Promise 5: to may be NONE again after a sweep", """
            create(0) = 1
            extend(0) = 0
            create(1) = 2
            extend(1) = 1
            extend(1) = 2
            remove(1) = 2
            tick(30.0) = 30.0
            copy(0, 1) throws IllegalStateException
            sweep() = 1
            copy(0, 1) = 1
            file(1, 1) = 1
            file(1, 2) = 0
            file(1, 3) = -1
            """);
        SCRIPT.run("Promise 5: a copy makes no CHUNK and no REPLICA, though all are FULL", Runs.fullServers() + """
            remove(7) = 0
            tick(30.0) = 30.0
            sweep() = 1
            copy(0, 7) = 3
            load() = 12.0
            chunk(20, 0) throws NoSuchElementException
            """);
    }

    private static void sweep() {
        SCRIPT.run("Promise 14: HIDDEN 30.0 or more ago, or less", """
            create(0) = 1
            remove(0) = 0
            tick(29.999999999999996) = 29.999999999999996
            sweep() = 0
            file(0, 0) = 2
            tick(3.552713678800501E-15) = 30.0
            sweep() = 1
            file(0, 0) = 0
            """);
        SCRIPT.run("Promise 14: HIDDEN 30.0 or more ago: longer", """
            create(0) = 1
            tick(5.0) = 5.0
            remove(0) = 0
            tick(29.5) = 34.5
            sweep() = 0
            tick(0.75) = 35.25
            sweep() = 1
            """);
        SCRIPT.run("Promise 14: All FILES: none, 1, and 8", Runs.creates(8) + """
            sweep() = 0
            tick(100.0) = 100.0
            sweep() = 0
            remove(4) = 0
            sweep() = 0
            tick(30.0) = 130.0
            sweep() = 1
            sweep() = 0
            create(4) = 8
            remove(0) = 0
            remove(1) = 0
            remove(2) = 0
            remove(3) = 0
            remove(4) = 0
            remove(5) = 0
            remove(6) = 0
            remove(7) = 0
            tick(30.0) = 160.0
            sweep() = 8
            sweep() = 0
            file(0, 0) = 0
            file(7, 0) = 0
            """);
        SCRIPT.run("Promise 14: FILES that were HIDDEN, and not THERE or HIDDEN later", """
            create(0) = 1
            create(1) = 2
            create(2) = 3
            remove(0) = 0
            remove(1) = 0
            tick(15.0) = 15.0
            remove(2) = 0
            restore(1) = 0
            tick(15.0) = 30.0
            sweep() = 1
            file(0, 0) = 0
            file(1, 0) = 1
            file(2, 0) = 2
            """);
    }

    private static void sweepOfSharedChunks() {
        SCRIPT.run("Promise 14: REFS of their CHUNKS fall, of none to 3, to 0 or above", """
            create(0) = 1
            create(1) = 2
            extend(0) = 0
            extend(0) = 1
            copy(0, 2) = 2
            extend(0) = 2
            remove(0) = 3
            remove(1) = 0
            chunk(0, 1) = 2
            chunk(2, 1) = 1
            tick(30.0) = 30.0
            chunk(2, 1) = 1
            sweep() = 2
            chunk(0, 1) = 1
            chunk(1, 1) = 1
            chunk(2, 1) = 0
            chunk(2, 0) = 1
            chunk(2, 3) = 3
            look(1, 2, 0) = 1
            file(0, 1) = 0
            file(0, 2) = -1
            file(2, 1) = 2
            """);
        SCRIPT.run("Promise 14: REFS fall by each of the FILES", """
            create(0) = 1
            extend(0) = 0
            copy(0, 1) = 1
            copy(0, 2) = 1
            remove(0) = 1
            remove(2) = 1
            tick(30.0) = 30.0
            sweep() = 2
            chunk(0, 1) = 1
            """);
    }

    private static void tick() {
        SCRIPT.run("Promise 15: by 0.0 .. 100.0: the last that are allowed", """
            tick(0.0) = 0.0
            tick(-0.0) = 0.0
            tick(4.9E-324) = 4.9E-324
            tick(99.99999999999999) = 99.99999999999999
            tick(100.0) = 200.0
            """);
        SCRIPT.run("Promise 15: by 0.0 .. 100.0: the first that are refused", Runs.manifold() + """
            tick(-4.9E-324) throws IllegalArgumentException
            tick(100.00000000000001) throws IllegalArgumentException
            tick(-1.0) throws IllegalArgumentException
            tick(-100.0) throws IllegalArgumentException
            tick(101.0) throws IllegalArgumentException
            tick(1.7976931348623157E308) throws IllegalArgumentException
            tick(-1.7976931348623157E308) throws IllegalArgumentException
            tick(Infinity) throws IllegalArgumentException
            tick(-Infinity) throws IllegalArgumentException
            tick(NaN) throws IllegalArgumentException
            tick(0.0) = 2.5
            """);
        SCRIPT.run("Promise 15: TIME goes on. Answers TIME", """
            tick(0.1) = 0.1
            tick(0.2) = 0.30000000000000004
            tick(0.0) = 0.30000000000000004
            tick(100.0) = 100.3
            """);
    }

    private static void file() {
        SCRIPT.run("Promise 18: file 0 .. 7, what 0 .. 4", Runs.outOfRange("file(N, 0)", LOW, -1, 8, HIGH)
                + Runs.outOfRange("file(0, N)", LOW, -1, 5, HIGH) + """
            file(0, 0) = 0
            file(7, 4) = -1
            """);
        SCRIPT.run("Promise 18: file 0 .. 7, what 0 .. 4: what stands stays", Runs.manifold()
                + Runs.outOfRange("file(N, 1)", -1, 8) + Runs.outOfRange("file(0, N)", -1, 5));
        SCRIPT.run("Promise 18: 0 NONE, 1 THERE, 2 HIDDEN", """
            file(5, 0) = 0
            create(5) = 1
            file(5, 0) = 1
            remove(5) = 0
            file(5, 0) = 2
            restore(5) = 0
            file(5, 0) = 1
            remove(5) = 0
            tick(30.0) = 30.0
            file(5, 0) = 2
            sweep() = 1
            file(5, 0) = 0
            """);
        SCRIPT.run("Promise 18: how many CHUNKS, and the CHUNK at a place, -1 if there is none", """
            create(0) = 1
            create(1) = 2
            extend(0) = 0
            file(1, 1) = 0
            file(1, 2) = -1
            file(1, 3) = -1
            file(1, 4) = -1
            extend(1) = 1
            file(1, 1) = 1
            file(1, 2) = 1
            file(1, 3) = -1
            extend(1) = 2
            file(1, 1) = 2
            file(1, 3) = 2
            file(1, 4) = -1
            extend(1) = 3
            file(1, 1) = 3
            file(1, 2) = 1
            file(1, 3) = 2
            file(1, 4) = 3
            remove(1) = 3
            file(1, 1) = 3
            file(1, 4) = 3
            tick(30.0) = 30.0
            sweep() = 1
            file(1, 1) = 0
            file(1, 2) = -1
            file(1, 3) = -1
            file(1, 4) = -1
            file(0, 2) = 0
            """);
    }
}
