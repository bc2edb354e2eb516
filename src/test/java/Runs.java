/** Beginnings of runs, for Script, that many tests share. */
final class Runs {
    private Runs() {}

    /** All 8 files; 20 chunks in the first 7 of them, so that all 5 servers are full. */
    static String fullServers() {
        return creates(8) + extendsTo(0, 20, 0);
    }

    /** Server 0 alone is up, and is the holder of so many chunks, in files 0 .. 3. */
    static String onlyServer0(int count) {
        return off(1, 2, 3, 4) + creates(4) + extendsTo(0, count, 0);
    }

    /** All 8 files have 3 chunks each: 0 .. 11 on server 0, which is not up, 12 .. 23 on server 1. */
    static String fullRows() {
        return off(1, 2, 3, 4) + creates(8) + extendsTo(0, 12, 0)
                + "up(0, false) = 12\nup(1, true) = 0\n" + extendsTo(12, 24, 0);
    }

    /**
     * So many chunks, 24 to 30, are made, at time 30.0. All 8 files are there. Those of files 2 .. 7 are
     * on servers 0 and 1; file 0, then file 1, has what is made from 24 on, on server 2, which alone is up.
     */
    static String chunksMade(int count) {
        return fullRows() + "up(1, false) = 12\nup(2, true) = 0\n"
                + "remove(0) = 3\nremove(1) = 3\ntick(30.0) = 30.0\nsweep() = 2\n"
                + "create(0) = 7\ncreate(1) = 8\n" + extendsTo(24, count, 24);
    }

    /** Files there, hidden and shared, leases, kept locations, old replicas, and server 1 is not up. */
    static String manifold() {
        return """
            create(0) = 1
            append(0, 5) = 0
            append(0, 6) = 1
            extend(0) = 1
            locate(0, 0, 0) = 2
            copy(0, 1) = 2
            write(1, 0, 3, 7) = 1
            up(1, false) = 2
            tick(2.5) = 2.5
            write(0, 1, 0, 8) = 1
            create(2) = 3
            append(2, 9) = 0
            remove(2) = 1
            locate(1, 1, 0) = 1
            write(1, 0, 1, 4) = 2
            create(7) = 3
            """;
    }

    static String creates(int count) {
        StringBuilder calls = new StringBuilder();
        for (int i = 0; i < count; i++) {
            calls.append("create(" + i + ") = " + (i + 1) + "\n");
        }
        return calls.toString();
    }

    /** Servers that have nothing yet are not up from then on. */
    static String off(int... servers) {
        StringBuilder calls = new StringBuilder();
        for (int server : servers) {
            calls.append("up(" + server + ", false) = 0\n");
        }
        return calls.toString();
    }

    /** The same call, one that is refused for a number out of range, with each of the numbers for N. */
    static String outOfRange(String call, int... numbers) {
        StringBuilder calls = new StringBuilder();
        for (int number : numbers) {
            calls.append(call.replace("N", Integer.toString(number)) + " throws IllegalArgumentException\n");
        }
        return calls.toString();
    }

    /** Chunks from .. to - 1, three a file, of which file 0 has the first from the number firstOfFile0. */
    private static String extendsTo(int from, int to, int firstOfFile0) {
        StringBuilder calls = new StringBuilder();
        for (int i = from; i < to; i++) {
            calls.append("extend(" + (i - firstOfFile0) / 3 + ") = " + i + "\n");
        }
        return calls.toString();
    }
}
