/** Boundary cases of the promises on rows and words (6 to 10), a run for each sentence. */
public final class ChunkEdgesTest {
    private static final int LOW = Integer.MIN_VALUE;
    private static final int HIGH = Integer.MAX_VALUE;
    private static final Script SCRIPT = new Script();

    public static void main(String[] args) {
        extend();
        locate();
        writeRanges();
        write();
        writeWords();
        appendIsRefused();
        appendMakes();
        appendLeases();
        readRanges();
        readIsRefused();
        readOfReplicas();
        SCRIPT.finish();
    }

    private static void extend() {
        SCRIPT.run("Promise 6: file 0 .. 7", Runs.outOfRange("extend(N)", LOW, -1, 8, HIGH) + """
            create(0) = 1
            create(7) = 2
            extend(0) = 0
            extend(7) = 1
            extend(-1) throws IllegalArgumentException
            extend(8) throws IllegalArgumentException
            """);
        SCRIPT.run("Promise 6: file 0 .. 7: what stands stays", Runs.manifold()
                + Runs.outOfRange("extend(N)", -1, 8));
        SCRIPT.run("Promise 6: It is not THERE: NONE, HIDDEN, or swept", """
            extend(0) throws NoSuchElementException
            create(0) = 1
            extend(0) = 0
            remove(0) = 1
            extend(0) throws NoSuchElementException
            file(0, 1) = 1
            tick(30.0) = 30.0
            sweep() = 1
            extend(0) throws NoSuchElementException
            chunk(1, 0) throws NoSuchElementException
            """);
        SCRIPT.run("Promise 6: It is not THERE is told before a row of 3", """
            create(0) = 1
            extend(0) = 0
            extend(0) = 1
            extend(0) = 2
            remove(0) = 3
            extend(0) throws NoSuchElementException
            restore(0) = 3
            extend(0) throws IndexOutOfBoundsException
            """);
        SCRIPT.run("Promise 6: Answers its number, 0 to 29", Runs.chunksMade(30) + """
            file(1, 4) = 29
            """);
    }

    private static void locate() {
        SCRIPT.run("Promise 7: client 0 .. 2, file 0 .. 7, place 0 .. 2",
                Runs.outOfRange("locate(N, 0, 0)", LOW, -1, 3, HIGH)
                + Runs.outOfRange("locate(0, N, 0)", LOW, -1, 8, HIGH)
                + Runs.outOfRange("locate(0, 0, N)", LOW, -1, 3, HIGH) + """
            create(0) = 1
            extend(0) = 0
            extend(0) = 1
            extend(0) = 2
            copy(0, 7) = 3
            locate(0, 0, 0) = 1
            locate(2, 7, 2) = 1
            locate(3, 7, 2) throws IllegalArgumentException
            locate(2, 8, 2) throws IllegalArgumentException
            locate(2, 7, 3) throws IllegalArgumentException
            locate(-1, 0, 0) throws IllegalArgumentException
            locate(0, -1, 0) throws IllegalArgumentException
            locate(0, 0, -1) throws IllegalArgumentException
            """);
        SCRIPT.run("Promise 7: ranges: what stands stays", Runs.manifold()
                + Runs.outOfRange("locate(N, 0, 0)", -1, 3) + Runs.outOfRange("locate(0, N, 0)", -1, 8)
                + Runs.outOfRange("locate(0, 0, N)", -1, 3));
        SCRIPT.run("Promise 7: It is LOCATED, or refused", Runs.manifold() + """
            locate(0, 3, 0) throws NoSuchElementException
            locate(0, 2, 0) throws NoSuchElementException
            locate(0, 7, 0) throws IndexOutOfBoundsException
            locate(0, 0, 2) throws IndexOutOfBoundsException
            locate(0, 0, 1) = 1
            """);
        SCRIPT.run("Promise 7: Answers the VERSION that is kept, though it rose", Runs.manifold() + """
            locate(0, 0, 0) = 2
            locate(1, 1, 0) = 1
            locate(2, 1, 0) = 2
            """);
        SCRIPT.run("Promise 7: a CHUNK without LIVE HOLDERS can be LOCATED", """
            create(0) = 1
            extend(0) = 0
            up(0, false) = 1
            up(1, false) = 1
            up(2, false) = 1
            locate(0, 0, 0) = 1
            """);
    }

    private static void writeRanges() {
        SCRIPT.run("Promise 8: file 0 .. 7, place 0 .. 2, word 0 .. 3",
                Runs.outOfRange("write(N, 0, 0, 1)", LOW, -1, 8, HIGH)
                + Runs.outOfRange("write(0, N, 0, 1)", LOW, -1, 3, HIGH)
                + Runs.outOfRange("write(0, 0, N, 1)", LOW, -1, 4, HIGH) + """
            create(0) = 1
            create(7) = 2
            extend(0) = 0
            extend(7) = 1
            extend(7) = 2
            extend(7) = 3
            write(0, 0, 0, 1) = 2
            write(7, 2, 3, 1) = 2
            write(8, 2, 3, 1) throws IllegalArgumentException
            write(7, 3, 3, 1) throws IllegalArgumentException
            write(7, 2, 4, 1) throws IllegalArgumentException
            write(-1, 0, 0, 1) throws IllegalArgumentException
            write(0, -1, 0, 1) throws IllegalArgumentException
            write(0, 0, -1, 1) throws IllegalArgumentException
            """);
        SCRIPT.run("Promise 8: ranges: what stands stays", Runs.manifold()
                + Runs.outOfRange("write(N, 0, 0, 1)", -1, 8) + Runs.outOfRange("write(1, N, 0, 1)", -1, 3)
                + Runs.outOfRange("write(1, 0, N, 1)", -1, 4));
        SCRIPT.run("Promise 8: the value may be any int", """
            create(0) = 1
            extend(0) = 0
            write(0, 0, 0, -2147483648) = 2
            write(0, 0, 1, 2147483647) = 2
            write(0, 0, 2, -1) = 2
            write(0, 0, 3, 0) = 2
            look(0, 0, 2) = -2147483648
            look(0, 0, 3) = 2147483647
            look(0, 0, 4) = -1
            look(0, 0, 5) = 0
            """);
    }

    private static void write() {
        SCRIPT.run("Promise 8: The FILE is not THERE: NONE, HIDDEN, or swept", """
            write(0, 0, 0, 1) throws NoSuchElementException
            create(0) = 1
            extend(0) = 0
            remove(0) = 1
            write(0, 0, 0, 1) throws NoSuchElementException
            tick(30.0) = 30.0
            sweep() = 1
            write(0, 0, 0, 1) throws NoSuchElementException
            chunk(0, 0) = 1
            look(0, 0, 2) = 0
            """);
        SCRIPT.run("Promise 8: no such place in its row of none to 3", """
            create(0) = 1
            write(0, 0, 0, 1) throws IndexOutOfBoundsException
            write(0, 2, 0, 1) throws IndexOutOfBoundsException
            extend(0) = 0
            write(0, 0, 0, 1) = 2
            write(0, 1, 0, 1) throws IndexOutOfBoundsException
            extend(0) = 1
            write(0, 1, 0, 1) = 2
            write(0, 2, 0, 1) throws IndexOutOfBoundsException
            extend(0) = 2
            write(0, 2, 0, 1) = 2
            """);
        SCRIPT.run("Promise 8: The CHUNK is LEASED, or refused: nothing is written", Runs.manifold() + """
            up(0, false) = 4
            up(2, false) = 3
            write(1, 0, 0, 9) throws IllegalStateException
            look(0, 2, 2) = 5
            look(0, 2, 1) = 4
            up(2, true) = 3
            write(1, 0, 0, 9) = 3
            look(2, 2, 2) = 9
            look(0, 2, 2) = 5
            """);
    }

    private static void writeWords() {
        SCRIPT.run("Promise 8: the word becomes the value in the REPLICA of each HOLDER alone", """
            create(0) = 1
            append(0, 5) = 0
            extend(0) = 1
            up(1, false) = 1
            write(0, 0, 0, 6) = 3
            look(0, 0, 2) = 6
            look(2, 0, 2) = 6
            look(1, 0, 2) = 5
            look(0, 1, 2) = 0
            up(1, true) = 1
            write(0, 0, 1, 7) = 3
            look(0, 0, 2) = 6
            look(0, 0, 3) = 7
            look(0, 0, 4) = 0
            look(0, 0, 5) = 0
            look(1, 0, 3) = 0
            """);
        SCRIPT.run("Promise 8: at least word + 1 are USED: the first word", """
            create(0) = 1
            extend(0) = 0
            write(0, 0, 0, 1) = 2
            look(0, 0, 1) = 1
            write(0, 0, 1, 1) = 2
            look(0, 0, 1) = 2
            write(0, 0, 0, 1) = 2
            look(0, 0, 1) = 2
            """);
        SCRIPT.run("Promise 8: at least word + 1 are USED: the last word", """
            create(0) = 1
            extend(0) = 0
            write(0, 0, 3, 1) = 2
            look(0, 0, 1) = 4
            look(2, 0, 1) = 4
            look(0, 0, 2) = 0
            write(0, 0, 0, 1) = 2
            write(0, 0, 3, 1) = 2
            look(0, 0, 1) = 4
            """);
        SCRIPT.run("Promise 8: Answers its VERSION, that of the new CHUNK if it was shared", """
            create(0) = 1
            extend(0) = 0
            write(0, 0, 0, 1) = 2
            write(0, 0, 0, 1) = 2
            tick(10.0) = 10.0
            write(0, 0, 0, 1) = 3
            copy(0, 1) = 1
            write(0, 0, 0, 1) = 1
            write(1, 0, 0, 1) = 4
            """);
    }

    private static void appendIsRefused() {
        SCRIPT.run("Promise 9: file 0 .. 7", Runs.outOfRange("append(N, 1)", LOW, -1, 8, HIGH) + """
            create(0) = 1
            create(7) = 2
            append(0, -2147483648) = 0
            append(7, 2147483647) = 0
            look(0, 0, 2) = -2147483648
            look(3, 1, 2) = 2147483647
            append(-1, 1) throws IllegalArgumentException
            append(8, 1) throws IllegalArgumentException
            """);
        SCRIPT.run("Promise 9: file 0 .. 7: what stands stays", Runs.manifold()
                + Runs.outOfRange("append(N, 1)", -1, 8));
        SCRIPT.run("Promise 9: The FILE is not THERE: NONE, HIDDEN, or swept", """
            append(0, 1) throws NoSuchElementException
            create(0) = 1
            append(0, 1) = 0
            remove(0) = 1
            append(0, 1) throws NoSuchElementException
            tick(30.0) = 30.0
            sweep() = 1
            append(0, 1) throws NoSuchElementException
            look(0, 0, 1) = 1
            """);
        SCRIPT.run("Promise 9: The FILE is not THERE is told before a row that is full", """
            create(0) = 1
            extend(0) = 0
            extend(0) = 1
            extend(0) = 2
            write(0, 2, 3, 1) = 2
            remove(0) = 3
            append(0, 1) throws NoSuchElementException
            restore(0) = 3
            append(0, 1) throws IndexOutOfBoundsException
            """);
    }

    private static void appendMakes() {
        SCRIPT.run("Promise 9: The row is empty: a CHUNK is MADE", """
            create(0) = 1
            append(0, 7) = 0
            file(0, 1) = 1
            chunk(0, 0) = 2
            chunk(0, 4) = 1
            look(2, 0, 0) = 2
            look(2, 0, 1) = 1
            look(2, 0, 2) = 7
            """);
        SCRIPT.run("Promise 9: The row is empty, and no CHUNK can be MADE", """
            up(0, false) = 0
            up(1, false) = 0
            up(2, false) = 0
            up(3, false) = 0
            up(4, false) = 0
            create(0) = 1
            append(0, 7) throws IllegalStateException
            file(0, 1) = 0
            chunk(0, 0) throws NoSuchElementException
            """);
        SCRIPT.run("Promise 9: 3 words USED, then all 4: a CHUNK is MADE", """
            create(0) = 1
            extend(0) = 0
            write(0, 0, 2, 1) = 2
            append(0, 2) = 3
            file(0, 1) = 1
            append(0, 3) = 4
            file(0, 1) = 2
            file(0, 3) = 1
            look(0, 0, 5) = 2
            look(0, 1, 2) = 3
            """);
        SCRIPT.run("Promise 9: all 4 words USED of the last CHUNK, not of another", """
            create(0) = 1
            extend(0) = 0
            write(0, 0, 3, 1) = 2
            extend(0) = 1
            append(0, 2) = 4
            file(0, 1) = 2
            extend(0) = 2
            append(0, 3) = 8
            append(0, 3) = 9
            look(3, 1, 1) = 1
            """);
        SCRIPT.run("Promise 9: the row has 3, the last with 3 USED, then all 4", """
            create(0) = 1
            extend(0) = 0
            extend(0) = 1
            extend(0) = 2
            write(0, 2, 2, 1) = 2
            append(0, 2) = 11
            append(0, 3) throws IndexOutOfBoundsException
            look(1, 2, 5) = 2
            file(0, 1) = 3
            """);
        SCRIPT.run("Promise 9: all 4 words USED, though its HOLDERS are not UP: a CHUNK is MADE", """
            create(0) = 1
            extend(0) = 0
            write(0, 0, 3, 1) = 2
            up(0, false) = 1
            up(1, false) = 1
            up(2, false) = 1
            append(0, 2) = 4
            chunk(1, 2) = 24
            up(3, false) = 1
            up(4, false) = 1
            write(0, 1, 3, 1) throws IllegalStateException
            append(0, 2) throws IllegalStateException
            up(4, true) = 1
            write(0, 1, 3, 1) = 3
            up(4, false) = 1
            append(0, 2) throws IllegalStateException
            file(0, 1) = 2
            """);
        SCRIPT.run("Promise 9: all 4 words USED, and 30 CHUNKS are made", Runs.chunksMade(29) + """
            write(1, 1, 3, 1) = 2
            append(1, 2) = 8
            file(1, 4) = 29
            remove(7) = 3
            tick(30.0) = 60.0
            sweep() = 1
            create(7) = 8
            append(7, 1) throws IndexOutOfBoundsException
            file(7, 1) = 0
            """);
        SCRIPT.run("Promise 9: all 4 words USED, and all SERVERS are FULL", Runs.fullServers() + """
            append(6, 1) = 4
            write(6, 1, 3, 1) = 2
            append(6, 1) throws IllegalStateException
            file(6, 1) = 2
            """);
    }

    private static void appendLeases() {
        SCRIPT.run("Promise 9: Then the last CHUNK is LEASED, or refused", Runs.manifold() + """
            up(0, false) = 4
            up(3, false) = 3
            up(4, false) = 3
            append(0, 1) throws IllegalStateException
            look(3, 3, 1) = 1
            up(3, true) = 3
            append(0, 1) = 5
            chunk(3, 0) = 2
            chunk(3, 2) = 8
            look(3, 3, 3) = 1
            look(4, 3, 3) = 0
            """);
        SCRIPT.run("Promise 9: a shared last CHUNK that is not full is LEASED, and split off", """
            create(0) = 1
            append(0, 5) = 0
            copy(0, 1) = 1
            append(0, 6) = 1
            file(0, 2) = 1
            look(0, 1, 2) = 5
            look(0, 1, 3) = 6
            look(0, 0, 1) = 1
            """);
        SCRIPT.run("Promise 9: a shared last CHUNK that is full stays shared", """
            create(0) = 1
            extend(0) = 0
            write(0, 0, 3, 5) = 2
            copy(0, 1) = 1
            append(0, 6) = 4
            file(0, 2) = 0
            file(0, 3) = 1
            file(1, 1) = 1
            chunk(0, 1) = 2
            chunk(1, 1) = 1
            """);
        SCRIPT.run("Promise 9: a shared last CHUNK of a FULL HOLDER", Runs.onlyServer0(12) + """
            copy(0, 4) = 3
            append(4, 1) throws UnsupportedOperationException
            append(0, 1) throws UnsupportedOperationException
            append(1, 1) = 8
            """);
        SCRIPT.run("Promise 9: a shared last CHUNK when 30 are made", Runs.chunksMade(30) + """
            remove(7) = 3
            tick(30.0) = 60.0
            sweep() = 1
            copy(0, 7) = 3
            append(7, 1) throws IndexOutOfBoundsException
            append(0, 1) throws IndexOutOfBoundsException
            append(1, 1) = 8
            """);
        SCRIPT.run("Promise 9: behind what is USED; Answers 4 times the place plus the word, 0 to 11", """
            create(0) = 1
            append(0, 20) = 0
            append(0, 21) = 1
            append(0, 22) = 2
            append(0, 23) = 3
            append(0, 24) = 4
            append(0, 25) = 5
            append(0, 26) = 6
            append(0, 27) = 7
            append(0, 28) = 8
            append(0, 29) = 9
            append(0, 30) = 10
            append(0, 31) = 11
            append(0, 32) throws IndexOutOfBoundsException
            look(0, 0, 2) = 20
            look(0, 0, 5) = 23
            look(0, 1, 2) = 24
            look(0, 1, 5) = 27
            look(1, 2, 2) = 28
            look(1, 2, 5) = 31
            """);
        SCRIPT.run("Promise 9: the value is at all HOLDERS, behind what is USED at the first", """
            create(0) = 1
            append(0, 5) = 0
            up(0, false) = 1
            append(0, 6) = 1
            up(0, true) = 1
            append(0, 7) = 2
            look(0, 0, 1) = 1
            look(0, 0, 3) = 0
            look(1, 0, 1) = 3
            look(2, 0, 4) = 7
            """);
    }

    private static void readRanges() {
        SCRIPT.run("Promise 10: client 0 .. 2, file 0 .. 7, place 0 .. 2, word 0 .. 3, server 0 .. 4",
                Runs.outOfRange("read(N, 0, 0, 0, 0)", LOW, -1, 3, HIGH)
                + Runs.outOfRange("read(0, N, 0, 0, 0)", LOW, -1, 8, HIGH)
                + Runs.outOfRange("read(0, 0, N, 0, 0)", LOW, -1, 3, HIGH)
                + Runs.outOfRange("read(0, 0, 0, N, 0)", LOW, -1, 4, HIGH)
                + Runs.outOfRange("read(0, 0, 0, 0, N)", LOW, -1, 5, HIGH) + """
            create(0) = 1
            create(7) = 2
            extend(0) = 0
            extend(7) = 1
            extend(7) = 2
            extend(7) = 3
            chunk(3, 2) = 19
            write(7, 2, 3, 9) = 2
            read(0, 0, 0, 0, 0) = 0
            read(2, 7, 2, 3, 4) = 9
            read(3, 7, 2, 3, 4) throws IllegalArgumentException
            read(2, 8, 2, 3, 4) throws IllegalArgumentException
            read(2, 7, 3, 3, 4) throws IllegalArgumentException
            read(2, 7, 2, 4, 4) throws IllegalArgumentException
            read(2, 7, 2, 3, 5) throws IllegalArgumentException
            read(-1, 0, 0, 0, 0) throws IllegalArgumentException
            read(0, -1, 0, 0, 0) throws IllegalArgumentException
            read(0, 0, -1, 0, 0) throws IllegalArgumentException
            read(0, 0, 0, -1, 0) throws IllegalArgumentException
            read(0, 0, 0, 0, -1) throws IllegalArgumentException
            """);
        SCRIPT.run("Promise 10: ranges: what stands stays, and nothing is LOCATED", Runs.manifold()
                + Runs.outOfRange("read(N, 0, 1, 0, 0)", -1, 3) + Runs.outOfRange("read(2, N, 1, 0, 0)", -1, 8)
                + Runs.outOfRange("read(2, 0, N, 0, 0)", -1, 3) + Runs.outOfRange("read(2, 0, 1, N, 0)", -1, 4)
                + Runs.outOfRange("read(2, 0, 1, 0, N)", -1, 5));
    }

    private static void readIsRefused() {
        SCRIPT.run("Promise 10: It is LOCATED: not THERE, or no such place", Runs.manifold() + """
            read(0, 3, 0, 0, 0) throws NoSuchElementException
            read(0, 2, 0, 0, 2) throws NoSuchElementException
            read(0, 7, 0, 0, 0) throws IndexOutOfBoundsException
            read(0, 0, 2, 0, 0) throws IndexOutOfBoundsException
            """);
        SCRIPT.run("Promise 10: the SERVER is none of the HOLDERS that were found", """
            create(0) = 1
            append(0, 5) = 0
            read(0, 0, 0, 0, 0) = 5
            read(0, 0, 0, 0, 2) = 5
            read(0, 0, 0, 0, 3) throws UnsupportedOperationException
            read(1, 0, 0, 0, 4) throws UnsupportedOperationException
            up(3, false) = 0
            read(0, 0, 0, 0, 3) throws UnsupportedOperationException
            """);
        SCRIPT.run("Promise 10: the SERVER is a HOLDER now, but was none as they were found", """
            create(0) = 1
            append(0, 5) = 0
            locate(0, 0, 0) = 2
            up(1, false) = 1
            repair() = 3
            read(0, 0, 0, 0, 3) throws UnsupportedOperationException
            read(1, 0, 0, 0, 3) = 5
            tick(5.0) = 5.0
            read(0, 0, 0, 0, 3) = 5
            """);
        SCRIPT.run("Promise 10: the SERVER is no HOLDER now, but was one as they were found", """
            create(0) = 1
            append(0, 5) = 0
            locate(0, 0, 0) = 2
            up(1, false) = 1
            write(0, 0, 0, 6) = 3
            up(1, true) = 1
            read(0, 0, 0, 0, 1) = 5
            read(1, 0, 0, 0, 1) throws UnsupportedOperationException
            """);
        SCRIPT.run("Promise 10: it is not UP", """
            create(0) = 1
            append(0, 5) = 0
            read(0, 0, 0, 0, 1) = 5
            up(1, false) = 1
            read(0, 0, 0, 0, 1) throws IllegalStateException
            read(1, 0, 0, 0, 1) throws IllegalStateException
            read(1, 0, 0, 0, 2) = 5
            up(1, true) = 1
            read(0, 0, 0, 0, 1) = 5
            """);
        SCRIPT.run("Promise 10: it has no REPLICA of the CHUNK", """
            create(0) = 1
            append(0, 5) = 0
            locate(0, 0, 0) = 2
            up(1, false) = 1
            write(0, 0, 0, 6) = 3
            up(1, true) = 1
            report(1) = 1
            read(0, 0, 0, 0, 1) throws IllegalStateException
            read(0, 0, 0, 0, 0) = 6
            """);
    }

    private static void readOfReplicas() {
        SCRIPT.run("Promise 10: a REPLICA of the VERSION that was found, or of a greater", """
            create(0) = 1
            append(0, 5) = 0
            locate(0, 0, 0) = 2
            read(0, 0, 0, 0, 0) = 5
            tick(1.0) = 1.0
            up(2, false) = 1
            write(0, 0, 0, 6) = 3
            look(0, 0, 0) = 3
            read(0, 0, 0, 0, 0) = 6
            locate(0, 0, 0) = 2
            """);
        SCRIPT.run("Promise 10: Answers the word of its REPLICA, one that is not USED too", """
            create(0) = 1
            append(0, 5) = 0
            append(0, -6) = 1
            read(0, 0, 0, 0, 1) = 5
            read(0, 0, 0, 1, 1) = -6
            read(0, 0, 0, 2, 1) = 0
            read(0, 0, 0, 3, 1) = 0
            """);
        SCRIPT.run("Promise 10: Answers the word of the CHUNK that was found, not of that there now", """
            create(0) = 1
            append(0, 5) = 0
            copy(0, 1) = 1
            locate(0, 1, 0) = 2
            write(1, 0, 0, 6) = 1
            read(0, 1, 0, 0, 2) = 5
            read(1, 1, 0, 0, 2) = 6
            tick(5.0) = 5.0
            read(0, 1, 0, 0, 2) = 6
            """);
    }
}
