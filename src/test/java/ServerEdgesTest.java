/** Boundary cases of the promises on servers and views (11 to 13, 16, 17, 19), a run for each sentence. */
public final class ServerEdgesTest {
    private static final int LOW = Integer.MIN_VALUE;
    private static final int HIGH = Integer.MAX_VALUE;
    private static final Script SCRIPT = new Script();

    public static void main(String[] args) {
        up();
        report();
        reportLoses();
        repairNeeds();
        repairChooses();
        repairOrder();
        repairGives();
        load();
        look();
        chunkRanges();
        chunk();
        SCRIPT.finish();
    }

    private static void up() {
        SCRIPT.run("Promise 11: server 0 .. 4", Runs.outOfRange("up(N, true)", LOW, -1, 5, HIGH)
                + Runs.outOfRange("up(N, false)", LOW, -1, 5, HIGH) + """
            up(0, true) = 0
            up(4, true) = 0
            up(0, false) = 0
            up(4, false) = 0
            """);
        SCRIPT.run("Promise 11: server 0 .. 4: what stands stays", Runs.manifold()
                + Runs.outOfRange("up(N, true)", -1, 5) + Runs.outOfRange("up(N, false)", -1, 5));
        SCRIPT.run("Promise 11: is UP or not from now on, each of them, once or again", """
            up(4, false) = 0
            up(4, false) = 0
            report(4) throws IllegalStateException
            report(0) = 0
            up(0, false) = 0
            report(0) throws IllegalStateException
            report(3) = 0
            up(4, true) = 0
            up(4, true) = 0
            report(4) = 0
            report(0) throws IllegalStateException
            """);
        SCRIPT.run("Promise 11: its REPLICAS and HOLDERS stay", """
            create(0) = 1
            append(0, 5) = 0
            up(0, false) = 1
            chunk(0, 2) = 7
            chunk(0, 0) = 2
            chunk(0, 4) = 1
            look(0, 0, 2) = 5
            up(0, true) = 1
            chunk(0, 2) = 7
            chunk(0, 3) = 3
            """);
        SCRIPT.run("Promise 11: Answers its LOAD, 0 to 12", Runs.onlyServer0(12) + """
            up(0, true) = 12
            up(0, false) = 12
            up(1, true) = 0
            """);
    }

    private static void report() {
        SCRIPT.run("Promise 12: server 0 .. 4", Runs.outOfRange("report(N)", LOW, -1, 5, HIGH) + """
            report(0) = 0
            report(4) = 0
            """);
        SCRIPT.run("Promise 12: server 0 .. 4: what stands stays", Runs.manifold()
                + Runs.outOfRange("report(N)", -1, 5));
        SCRIPT.run("Promise 12: It is not UP", Runs.manifold() + """
            report(1) throws IllegalStateException
            look(1, 2, 0) = 1
            up(1, true) = 2
            report(1) = 1
            look(1, 2, 0) throws NoSuchElementException
            look(1, 0, 0) = 2
            """);
        SCRIPT.run("Promise 12: each of its REPLICAS, none", """
            report(3) = 0
            create(0) = 1
            extend(0) = 0
            report(3) = 0
            report(4) = 0
            chunk(0, 2) = 7
            """);
        SCRIPT.run("Promise 12: each of its REPLICAS, to that of the last of 30 CHUNKS", Runs.chunksMade(30) + """
            report(2) = 0
            up(0, true) = 12
            report(0) = 6
            remove(1) = 3
            tick(30.0) = 60.0
            sweep() = 1
            report(2) = 3
            look(2, 29, 0) throws NoSuchElementException
            look(2, 26, 0) = 1
            chunk(29, 2) = 0
            """);
        SCRIPT.run("Promise 12: Answers how many it lost, all of 12", Runs.onlyServer0(12) + """
            remove(0) = 3
            remove(1) = 3
            remove(2) = 3
            remove(3) = 3
            tick(30.0) = 30.0
            sweep() = 4
            up(0, true) = 12
            report(0) = 12
            up(0, true) = 0
            report(0) = 0
            look(0, 0, 0) throws NoSuchElementException
            look(0, 11, 0) throws NoSuchElementException
            create(0) = 1
            extend(0) = 12
            chunk(12, 2) = 1
            """);
    }

    private static void reportLoses() {
        SCRIPT.run("Promise 12: the CHUNK has REFS 1, then 0", """
            create(0) = 1
            extend(0) = 0
            copy(0, 1) = 1
            remove(0) = 1
            tick(30.0) = 30.0
            sweep() = 1
            chunk(0, 1) = 1
            report(1) = 0
            chunk(0, 2) = 7
            remove(1) = 1
            tick(30.0) = 60.0
            report(1) = 0
            sweep() = 1
            chunk(0, 1) = 0
            report(1) = 1
            chunk(0, 2) = 5
            chunk(0, 3) = 2
            look(1, 0, 0) throws NoSuchElementException
            look(0, 0, 0) = 1
            report(0) = 1
            report(2) = 1
            chunk(0, 2) = 0
            chunk(0, 0) = 1
            """);
        SCRIPT.run("Promise 12: the CHUNK has REFS 0: of a SERVER that was no HOLDER too", """
            create(0) = 1
            extend(0) = 0
            up(1, false) = 1
            write(0, 0, 0, 1) = 2
            remove(0) = 1
            tick(30.0) = 30.0
            sweep() = 1
            up(1, true) = 1
            report(1) = 1
            chunk(0, 2) = 5
            """);
        SCRIPT.run("Promise 12: the CHUNK has the same VERSION, or a greater", """
            create(0) = 1
            extend(0) = 0
            extend(0) = 1
            chunk(1, 2) = 25
            up(0, false) = 2
            write(0, 0, 0, 1) = 2
            up(0, true) = 2
            look(0, 0, 0) = 1
            chunk(0, 0) = 2
            report(0) = 1
            look(0, 0, 0) throws NoSuchElementException
            look(0, 1, 0) = 1
            chunk(0, 2) = 6
            chunk(1, 2) = 25
            up(0, true) = 1
            report(1) = 0
            look(1, 0, 0) = 2
            """);
        SCRIPT.run("Promise 12: a SERVER that was FULL can be CHOSEN when it lost one", Runs.onlyServer0(12) + """
            create(4) = 5
            extend(4) throws IllegalStateException
            remove(1) = 3
            tick(30.0) = 30.0
            sweep() = 1
            extend(4) throws IllegalStateException
            report(0) = 3
            extend(4) = 12
            chunk(12, 2) = 1
            look(0, 12, 0) = 1
            look(0, 12, 1) = 0
            """);
    }

    private static void repairNeeds() {
        SCRIPT.run("Promise 13: there is none: no CHUNKS", """
            repair() throws NoSuchElementException
            create(0) = 1
            repair() throws NoSuchElementException
            """);
        SCRIPT.run("Promise 13: 1 or 2 LIVE HOLDERS, not 3", """
            create(0) = 1
            extend(0) = 0
            repair() throws NoSuchElementException
            up(2, false) = 1
            repair() = 3
            repair() throws NoSuchElementException
            up(3, false) = 1
            up(1, false) = 1
            chunk(0, 3) = 1
            repair() = 4
            chunk(0, 3) = 2
            repair() throws NoSuchElementException
            """);
        SCRIPT.run("Promise 13: 1 or 2 LIVE HOLDERS, not none", """
            create(0) = 1
            extend(0) = 0
            up(0, false) = 1
            up(1, false) = 1
            up(2, false) = 1
            chunk(0, 3) = 0
            repair() throws NoSuchElementException
            up(2, true) = 1
            repair() = 3
            repair() = 4
            repair() throws NoSuchElementException
            """);
        SCRIPT.run("Promise 13: 1 or 2 LIVE HOLDERS, not 4 or 5", """
            create(0) = 1
            extend(0) = 0
            up(0, false) = 1
            repair() = 3
            up(1, false) = 1
            repair() = 4
            up(1, true) = 1
            chunk(0, 3) = 4
            repair() throws NoSuchElementException
            up(0, true) = 1
            chunk(0, 3) = 5
            repair() throws NoSuchElementException
            """);
        SCRIPT.run("Promise 13: REFS above 0, or not", """
            create(0) = 1
            extend(0) = 0
            up(0, false) = 1
            remove(0) = 1
            tick(30.0) = 30.0
            chunk(0, 1) = 1
            repair() = 3
            up(3, false) = 1
            sweep() = 1
            chunk(0, 1) = 0
            chunk(0, 3) = 2
            repair() throws NoSuchElementException
            """);
    }

    private static void repairChooses() {
        SCRIPT.run("Promise 13: a SERVER can be CHOSEN that is UP, or none", """
            create(0) = 1
            up(3, false) = 0
            up(4, false) = 0
            extend(0) = 0
            up(0, false) = 1
            repair() throws NoSuchElementException
            up(4, true) = 0
            repair() = 4
            """);
        SCRIPT.run("Promise 13: a SERVER can be CHOSEN that has 11, not 12", Runs.onlyServer0(11) + """
            up(1, true) = 0
            up(0, false) = 11
            create(4) = 5
            extend(4) = 11
            extend(4) = 12
            chunk(11, 2) = 2
            up(0, true) = 11
            repair() = 1
            repair() = 11
            repair() = 21
            repair() = 31
            repair() = 41
            repair() = 51
            repair() = 61
            repair() = 71
            repair() = 81
            repair() = 91
            up(1, true) = 12
            up(0, true) = 11
            chunk(10, 3) = 1
            repair() = 110
            up(0, true) = 12
            chunk(12, 3) = 1
            repair() throws NoSuchElementException
            """);
        SCRIPT.run("Promise 13: a SERVER can be CHOSEN that has no REPLICA, an old one is one", """
            create(0) = 1
            up(2, false) = 0
            up(3, false) = 0
            up(4, false) = 0
            extend(0) = 0
            up(1, false) = 1
            write(0, 0, 0, 5) = 2
            up(1, true) = 1
            chunk(0, 3) = 1
            repair() throws NoSuchElementException
            report(1) = 1
            repair() = 1
            look(1, 0, 0) = 2
            look(1, 0, 2) = 5
            """);
        SCRIPT.run("Promise 13: One SERVER is CHOSEN, by rising LOAD and number", """
            create(0) = 1
            up(2, false) = 0
            up(3, false) = 0
            up(4, false) = 0
            extend(0) = 0
            up(0, false) = 1
            up(1, false) = 1
            up(2, true) = 0
            extend(0) = 1
            up(3, true) = 0
            up(4, true) = 0
            up(0, true) = 1
            repair() = 3
            chunk(0, 2) = 11
            repair() = 14
            chunk(1, 2) = 20
            repair() = 2
            repair() = 10
            repair() throws NoSuchElementException
            """);
    }

    private static void repairOrder() {
        SCRIPT.run("Promise 13: the one with the fewest LIVE HOLDERS", """
            create(0) = 1
            up(2, false) = 0
            up(3, false) = 0
            up(4, false) = 0
            extend(0) = 0
            up(1, false) = 1
            extend(0) = 1
            up(1, true) = 1
            up(2, true) = 0
            chunk(0, 3) = 2
            chunk(1, 3) = 1
            repair() = 12
            """);
        SCRIPT.run("Promise 13: the one with the fewest LIVE HOLDERS, not HOLDERS", """
            create(0) = 1
            up(3, false) = 0
            up(4, false) = 0
            extend(0) = 0
            up(2, false) = 1
            extend(0) = 1
            up(1, false) = 2
            extend(0) = 2
            up(1, true) = 2
            up(0, false) = 3
            up(2, true) = 1
            up(3, true) = 0
            chunk(0, 3) = 2
            chunk(1, 3) = 1
            chunk(2, 3) = 0
            repair() = 13
            """);
        SCRIPT.run("Promise 13: of those the first", """
            create(0) = 1
            up(1, false) = 0
            up(2, false) = 0
            up(3, false) = 0
            up(4, false) = 0
            extend(0) = 0
            extend(0) = 1
            extend(0) = 2
            up(1, true) = 0
            repair() = 1
            repair() = 11
            repair() = 21
            repair() throws NoSuchElementException
            up(4, true) = 0
            repair() = 4
            repair() = 14
            repair() = 24
            repair() throws NoSuchElementException
            """);
        SCRIPT.run("Promise 13: the fewest of those for which a SERVER can be CHOSEN", """
            create(0) = 1
            up(3, false) = 0
            up(4, false) = 0
            extend(0) = 0
            up(1, false) = 1
            up(2, false) = 1
            write(0, 0, 0, 1) = 2
            up(1, true) = 1
            extend(0) = 1
            up(2, true) = 1
            chunk(0, 3) = 1
            chunk(1, 3) = 2
            repair() = 12
            repair() throws NoSuchElementException
            """);
    }

    private static void repairGives() {
        SCRIPT.run("Promise 13: gets a REPLICA like that of the first LIVE HOLDER, and is a HOLDER", """
            create(0) = 1
            append(0, 5) = 0
            append(0, 6) = 1
            append(0, 7) = 2
            tick(10.0) = 10.0
            append(0, 8) = 3
            up(0, false) = 1
            tick(1.0) = 11.0
            repair() = 3
            look(3, 0, 0) = 3
            look(3, 0, 1) = 4
            look(3, 0, 2) = 5
            look(3, 0, 3) = 6
            look(3, 0, 4) = 7
            look(3, 0, 5) = 8
            chunk(0, 0) = 3
            chunk(0, 1) = 1
            chunk(0, 2) = 15
            chunk(0, 3) = 3
            chunk(0, 4) = 1
            up(3, true) = 1
            """);
        SCRIPT.run("Promise 13: what it had in a REPLICA that it lost does not come back", """
            up(2, false) = 0
            up(3, false) = 0
            up(4, false) = 0
            create(0) = 1
            append(0, 5) = 0
            copy(0, 1) = 1
            up(1, false) = 1
            append(1, 6) = 1
            append(0, 7) = 1
            up(1, true) = 1
            report(1) = 1
            repair() = 1
            look(1, 0, 0) = 3
            look(1, 0, 1) = 2
            look(1, 0, 2) = 5
            look(1, 0, 3) = 7
            repair() = 11
            look(1, 1, 0) = 1
            look(1, 1, 3) = 6
            """);
        SCRIPT.run("Promise 13: Answers 10 times the CHUNK plus the SERVER, to 294", Runs.chunksMade(30) + """
            up(4, true) = 0
            repair() = 244
            repair() = 254
            repair() = 264
            repair() = 274
            repair() = 284
            repair() = 294
            chunk(29, 2) = 20
            repair() throws NoSuchElementException
            """);
    }

    private static void load() {
        SCRIPT.run("Promise 16: none is UP", Runs.manifold() + """
            up(0, false) = 4
            up(2, false) = 3
            up(3, false) = 3
            load() = 3.0
            up(4, false) = 3
            load() throws ArithmeticException
            up(1, true) = 2
            load() = 2.0
            """);
        SCRIPT.run("Promise 16: The mean LOAD, of REPLICAS none to 12", """
            load() = 0.0
            create(0) = 1
            extend(0) = 0
            load() = 0.6
            up(0, false) = 1
            load() = 0.5
            up(1, false) = 1
            load() = 0.3333333333333333
            up(2, false) = 1
            load() = 0.0
            """);
        SCRIPT.run("Promise 16: The mean LOAD of FULL SERVERS", Runs.fullServers() + """
            load() = 12.0
            up(3, false) = 12
            load() = 12.0
            """);
    }

    private static void look() {
        SCRIPT.run("Promise 17: server 0 .. 4, chunk 0 .. 29, what 0 .. 5",
                Runs.outOfRange("look(N, 0, 0)", LOW, -1, 5, HIGH)
                + Runs.outOfRange("look(0, N, 0)", LOW, -1, 30, HIGH)
                + Runs.outOfRange("look(0, 0, N)", LOW, -1, 6, HIGH) + """
            look(0, 0, 0) throws NoSuchElementException
            look(4, 29, 5) throws NoSuchElementException
            """);
        SCRIPT.run("Promise 17: the last that are allowed", Runs.chunksMade(30) + """
            up(4, true) = 0
            repair() = 244
            repair() = 254
            repair() = 264
            repair() = 274
            repair() = 284
            repair() = 294
            write(1, 2, 3, 9) = 2
            look(4, 29, 0) = 2
            look(4, 29, 1) = 4
            look(4, 29, 5) = 9
            look(0, 0, 0) = 1
            look(5, 29, 5) throws IllegalArgumentException
            look(4, 30, 5) throws IllegalArgumentException
            look(4, 29, 6) throws IllegalArgumentException
            look(-1, 0, 0) throws IllegalArgumentException
            look(0, -1, 0) throws IllegalArgumentException
            look(0, 0, -1) throws IllegalArgumentException
            """);
        SCRIPT.run("Promise 17: ranges: what stands stays", Runs.manifold()
                + Runs.outOfRange("look(N, 0, 0)", -1, 5) + Runs.outOfRange("look(0, N, 0)", -1, 30)
                + Runs.outOfRange("look(0, 0, N)", -1, 6));
        SCRIPT.run("Promise 17: 0 its VERSION, 1 how many words are USED, 2 + i: word i", """
            create(0) = 1
            extend(0) = 0
            look(1, 0, 0) = 1
            look(1, 0, 1) = 0
            look(1, 0, 2) = 0
            look(1, 0, 5) = 0
            append(0, 11) = 0
            append(0, 12) = 1
            append(0, 13) = 2
            append(0, 14) = 3
            look(1, 0, 0) = 2
            look(1, 0, 1) = 4
            look(1, 0, 2) = 11
            look(1, 0, 3) = 12
            look(1, 0, 4) = 13
            look(1, 0, 5) = 14
            """);
        SCRIPT.run("Promise 17: it has none: not made, elsewhere, or lost", """
            look(0, 0, 0) throws NoSuchElementException
            create(0) = 1
            extend(0) = 0
            look(2, 0, 0) = 1
            look(3, 0, 0) throws NoSuchElementException
            look(2, 1, 0) throws NoSuchElementException
            remove(0) = 1
            tick(30.0) = 30.0
            sweep() = 1
            look(2, 0, 0) = 1
            report(2) = 1
            look(2, 0, 0) throws NoSuchElementException
            look(2, 0, 1) throws NoSuchElementException
            look(2, 0, 5) throws NoSuchElementException
            """);
        SCRIPT.run("Promise 17: of a SERVER that is not UP, and one that is no HOLDER", """
            create(0) = 1
            append(0, 5) = 0
            up(2, false) = 1
            write(0, 0, 0, 6) = 3
            look(2, 0, 0) = 2
            look(2, 0, 2) = 5
            """);
    }

    private static void chunkRanges() {
        SCRIPT.run("Promise 19: chunk 0 .. 29, what 0 .. 4", Runs.outOfRange("chunk(N, 0)", LOW, -1, 30, HIGH)
                + Runs.outOfRange("chunk(0, N)", LOW, -1, 5, HIGH) + """
            chunk(0, 0) throws NoSuchElementException
            chunk(29, 4) throws NoSuchElementException
            """);
        SCRIPT.run("Promise 19: the last that are allowed", Runs.chunksMade(30) + """
            chunk(0, 0) = 1
            chunk(29, 0) = 1
            chunk(29, 4) = 0
            chunk(30, 0) throws IllegalArgumentException
            chunk(29, 5) throws IllegalArgumentException
            chunk(-1, 0) throws IllegalArgumentException
            chunk(0, -1) throws IllegalArgumentException
            """);
        SCRIPT.run("Promise 19: ranges: what stands stays", Runs.manifold()
                + Runs.outOfRange("chunk(N, 0)", -1, 30) + Runs.outOfRange("chunk(0, N)", -1, 5));
        SCRIPT.run("Promise 19: it was not made, or was", """
            chunk(0, 0) throws NoSuchElementException
            create(0) = 1
            extend(0) = 0
            chunk(0, 0) = 1
            chunk(1, 0) throws NoSuchElementException
            chunk(1, 4) throws NoSuchElementException
            remove(0) = 1
            tick(30.0) = 30.0
            sweep() = 1
            chunk(0, 0) = 1
            chunk(0, 1) = 0
            """);
    }

    private static void chunk() {
        SCRIPT.run("Promise 19: its HOLDERS as a sum, 0 to 31, and how many of them are LIVE", """
            create(0) = 1
            extend(0) = 0
            chunk(0, 2) = 7
            chunk(0, 3) = 3
            up(0, false) = 1
            repair() = 3
            up(1, false) = 1
            repair() = 4
            chunk(0, 2) = 31
            chunk(0, 3) = 3
            up(0, true) = 1
            up(1, true) = 1
            chunk(0, 3) = 5
            remove(0) = 1
            tick(30.0) = 30.0
            sweep() = 1
            report(0) = 1
            report(1) = 1
            report(2) = 1
            report(3) = 1
            chunk(0, 2) = 16
            chunk(0, 3) = 1
            report(4) = 1
            chunk(0, 2) = 0
            chunk(0, 3) = 0
            """);
        SCRIPT.run("Promise 19: 1 if it has a LEASE with an end above TIME, else 0", """
            create(0) = 1
            extend(0) = 0
            chunk(0, 4) = 0
            write(0, 0, 0, 1) = 2
            chunk(0, 4) = 1
            tick(9.999999999999998) = 9.999999999999998
            chunk(0, 4) = 1
            tick(1.7763568394002505E-15) = 10.0
            chunk(0, 4) = 0
            write(0, 0, 0, 1) = 3
            up(0, false) = 1
            up(1, false) = 1
            up(2, false) = 1
            chunk(0, 4) = 1
            """);
    }
}
