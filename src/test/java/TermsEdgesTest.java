/** Boundary cases of the document's sections "What it is" and "Terms", a run for each sentence. */
public final class TermsEdgesTest {
    private static final Script SCRIPT = new Script();

    public static void main(String[] args) {
        calls();
        timeAndFiles();
        chunks();
        servers();
        clients();
        choosing();
        making();
        makingIsRefused();
        locating();
        locatingKeeps();
        leasing();
        leasingAnew();
        leasingShared();
        leasingIsRefused();
        orderOfExceptions();
        whatWasDoneStays();
        SCRIPT.finish();
    }

    private static void calls() {
        StringBuilder versions = new StringBuilder("create(0) = 1\nextend(0) = 0\n");
        for (int i = 0; i < 254; i++) {
            versions.append("write(0, 0, 0, " + i + ") = " + (i + 2) + "\n");
            versions.append("tick(10.0) = " + (i + 1) * 10.0 + "\n");
        }
        SCRIPT.run("What it is: at most 512 calls: the highest version", versions + """
            write(0, 0, 0, 9) = 256
            look(2, 0, 0) = 256
            """);
        SCRIPT.run("What it is: at most 512 calls: the latest time", ticks(512));
        SCRIPT.run("What it is: at most 512 calls: spans at a late time", ticks(500) + """
            create(0) = 1
            extend(0) = 0
            write(0, 0, 0, 1) = 2
            locate(0, 0, 0) = 2
            up(0, false) = 1
            write(0, 0, 0, 1) = 3
            tick(4.9990234375) = 50004.9990234375
            locate(0, 0, 0) = 2
            tick(0.0009765625) = 50005.0
            locate(0, 0, 0) = 3
            tick(5.0) = 50010.0
            chunk(0, 4) = 0
            """);
        SCRIPT.run("What it is: at most 512 calls: the last is refused", ticks(511) + """
            create(8) throws IllegalArgumentException
            """);
    }

    private static String ticks(int count) {
        StringBuilder calls = new StringBuilder();
        for (int i = 1; i <= count; i++) {
            calls.append("tick(100.0) = " + i * 100.0 + "\n");
        }
        return calls.toString();
    }

    private static void timeAndFiles() {
        SCRIPT.run("Terms: TIME is 0.0 at first", """
            tick(0.0) = 0.0
            """);
        SCRIPT.run("Terms: FILES 0 .. 7 are NONE at first", """
            file(-1, 0) throws IllegalArgumentException
            file(0, 0) = 0
            file(1, 0) = 0
            file(2, 0) = 0
            file(3, 0) = 0
            file(4, 0) = 0
            file(5, 0) = 0
            file(6, 0) = 0
            file(7, 0) = 0
            file(8, 0) throws IllegalArgumentException
            """);
        SCRIPT.run("Terms: a row has at most 3 CHUNKS", """
            create(0) = 1
            file(0, 1) = 0
            extend(0) = 0
            extend(0) = 1
            extend(0) = 2
            file(0, 1) = 3
            extend(0) throws IndexOutOfBoundsException
            remove(0) = 3
            file(0, 1) = 3
            restore(0) = 3
            extend(0) throws IndexOutOfBoundsException
            write(0, 2, 3, 1) = 2
            append(0, 1) throws IndexOutOfBoundsException
            """);
    }

    private static void chunks() {
        SCRIPT.run("Terms: CHUNKS have numbers in the order they are made, however they are", """
            create(0) = 1
            create(1) = 2
            extend(1) = 0
            extend(0) = 1
            copy(0, 2) = 1
            write(2, 0, 0, 1) = 1
            file(2, 2) = 2
            append(0, 1) = 0
            file(0, 2) = 1
            copy(2, 3) = 1
            append(3, 1) = 1
            file(3, 2) = 3
            write(1, 0, 3, 1) = 2
            append(1, 1) = 4
            file(1, 3) = 4
            extend(1) = 5
            """);
        SCRIPT.run("Terms: at most 30 CHUNKS", Runs.chunksMade(29) + """
            chunk(28, 0) = 1
            chunk(29, 0) throws NoSuchElementException
            extend(1) = 29
            chunk(29, 0) = 1
            remove(1) = 3
            tick(30.0) = 60.0
            sweep() = 1
            chunk(29, 1) = 0
            create(1) = 8
            extend(1) throws IndexOutOfBoundsException
            """);
        SCRIPT.run("Terms: REFS, the number of places in rows of FILES, from none to 8", """
            create(0) = 1
            extend(0) = 0
            chunk(0, 1) = 1
            copy(0, 1) = 1
            copy(1, 2) = 1
            copy(0, 3) = 1
            copy(0, 4) = 1
            copy(4, 5) = 1
            copy(0, 6) = 1
            chunk(0, 1) = 7
            copy(6, 7) = 1
            chunk(0, 1) = 8
            remove(0) = 1
            remove(1) = 1
            chunk(0, 1) = 8
            tick(30.0) = 30.0
            sweep() = 2
            chunk(0, 1) = 6
            remove(2) = 1
            remove(3) = 1
            remove(4) = 1
            remove(5) = 1
            remove(6) = 1
            tick(30.0) = 60.0
            sweep() = 5
            chunk(0, 1) = 1
            remove(7) = 1
            tick(30.0) = 90.0
            sweep() = 1
            chunk(0, 1) = 0
            """);
    }

    private static void servers() {
        SCRIPT.run("Terms: SERVERS 0 .. 4 are UP at first", """
            report(-1) throws IllegalArgumentException
            report(0) = 0
            report(1) = 0
            report(2) = 0
            report(3) = 0
            report(4) = 0
            report(5) throws IllegalArgumentException
            create(0) = 1
            extend(0) = 0
            extend(0) = 1
            chunk(0, 2) = 7
            chunk(1, 2) = 25
            """);
        SCRIPT.run("Terms: 4 words, of which none to all are USED", """
            create(0) = 1
            extend(0) = 0
            look(0, 0, 1) = 0
            append(0, 1) = 0
            look(0, 0, 1) = 1
            append(0, 2) = 1
            append(0, 3) = 2
            look(0, 0, 1) = 3
            append(0, 4) = 3
            look(0, 0, 1) = 4
            append(0, 5) = 4
            look(0, 0, 1) = 4
            look(0, 0, 2) = 1
            look(0, 0, 5) = 4
            """);
        SCRIPT.run("Terms: a SERVER is FULL with 12", Runs.onlyServer0(11) + """
            up(0, true) = 11
            extend(3) = 11
            up(0, true) = 12
            create(4) = 5
            extend(4) throws IllegalStateException
            up(0, true) = 12
            """);
        SCRIPT.run("Terms: LOAD is the number of REPLICAS, of a SERVER that is not UP too", """
            create(0) = 1
            up(4, true) = 0
            extend(0) = 0
            up(0, false) = 1
            extend(0) = 1
            extend(0) = 2
            up(1, true) = 2
            up(2, true) = 2
            up(3, true) = 2
            up(4, true) = 2
            up(0, true) = 1
            """);
        SCRIPT.run("Terms: LIVE HOLDERS are those that are UP, none to all", """
            create(0) = 1
            extend(0) = 0
            chunk(0, 3) = 3
            up(3, false) = 0
            chunk(0, 3) = 3
            up(0, false) = 1
            chunk(0, 3) = 2
            up(2, false) = 1
            chunk(0, 3) = 1
            up(1, false) = 1
            chunk(0, 3) = 0
            chunk(0, 2) = 7
            up(2, true) = 1
            chunk(0, 3) = 1
            up(4, true) = 0
            chunk(0, 3) = 1
            """);
    }

    private static void clients() {
        for (int client = 0; client < 3; client++) {
            for (int file = 0; file < 8; file++) {
                for (int place = 0; place < 3; place++) {
                    oneKept(client, file, place);
                }
            }
        }
    }

    /** One client keeps what it found at one place before all was written; whatever else is found is new. */
    private static void oneKept(int client, int file, int place) {
        String kept = locate(client, file, place);
        StringBuilder calls = new StringBuilder(Runs.fullRows() + "up(0, true) = 12\n" + kept + " = 1\n");
        for (int i = 0; i < 24; i++) {
            calls.append("write(" + i / 3 + ", " + i % 3 + ", 0, 1) = 2\n");
        }
        for (int i = 0; i < 72; i++) {
            String found = locate(i / 24, i % 24 / 3, i % 3);
            calls.append(found + (found.equals(kept) ? " = 1\n" : " = 2\n"));
        }
        SCRIPT.run("Terms: CLIENTS 0 .. 2 KEEP for a FILE and a place 0 .. 2: " + kept, calls.toString());
    }

    private static String locate(int client, int file, int place) {
        return "locate(" + client + ", " + file + ", " + place + ")";
    }

    private static void choosing() {
        SCRIPT.run("Terms, TO CHOOSE: those that are UP", """
            create(0) = 1
            up(0, false) = 0
            up(3, false) = 0
            extend(0) = 0
            chunk(0, 2) = 22
            """);
        SCRIPT.run("Terms, TO CHOOSE: those that are not FULL", Runs.onlyServer0(11) + """
            up(1, true) = 0
            extend(3) = 11
            chunk(11, 2) = 3
            up(0, true) = 12
            create(4) = 5
            extend(4) = 12
            chunk(12, 2) = 2
            up(0, true) = 12
            """);
        SCRIPT.run("Terms, TO CHOOSE: those that have no REPLICA, though an old one", """
            up(3, false) = 0
            up(4, false) = 0
            create(0) = 1
            extend(0) = 0
            up(2, false) = 1
            write(0, 0, 0, 1) = 2
            up(2, true) = 1
            chunk(0, 2) = 3
            repair() throws NoSuchElementException
            report(2) = 1
            repair() = 2
            """);
        SCRIPT.run("Terms, TO CHOOSE: by rising LOAD, those with the same by rising numbers", """
            create(0) = 1
            create(1) = 2
            extend(0) = 0
            chunk(0, 2) = 7
            extend(0) = 1
            chunk(1, 2) = 25
            extend(0) = 2
            chunk(2, 2) = 14
            extend(1) = 3
            chunk(3, 2) = 19
            extend(1) = 4
            chunk(4, 2) = 28
            load() = 3.0
            extend(1) = 5
            chunk(5, 2) = 7
            """);
        SCRIPT.run("Terms, TO CHOOSE: at most so many, and fewer if there are not so many", """
            create(0) = 1
            create(1) = 2
            up(4, false) = 0
            extend(0) = 0
            chunk(0, 2) = 7
            up(3, false) = 0
            extend(0) = 1
            chunk(1, 2) = 7
            up(2, false) = 2
            extend(0) = 2
            chunk(2, 2) = 3
            up(1, false) = 3
            extend(1) = 3
            chunk(3, 2) = 1
            up(0, false) = 4
            extend(1) throws IllegalStateException
            """);
    }

    private static void making() {
        SCRIPT.run("Terms, TO MAKE: VERSION 1, REFS 1, at the row's end, words 0 and nothing USED", """
            create(0) = 1
            append(0, 9) = 0
            extend(0) = 1
            file(0, 1) = 2
            file(0, 2) = 0
            file(0, 3) = 1
            file(0, 4) = -1
            chunk(1, 0) = 1
            chunk(1, 1) = 1
            chunk(1, 2) = 25
            chunk(1, 3) = 3
            chunk(1, 4) = 0
            look(4, 1, 0) = 1
            look(4, 1, 1) = 0
            look(4, 1, 2) = 0
            look(4, 1, 3) = 0
            look(4, 1, 4) = 0
            look(4, 1, 5) = 0
            look(0, 1, 0) = 1
            look(3, 1, 0) = 1
            look(1, 1, 0) throws NoSuchElementException
            look(2, 1, 0) throws NoSuchElementException
            """);
    }

    private static void makingIsRefused() {
        SCRIPT.run("Terms, TO MAKE: 30 are made, 29 are not", Runs.chunksMade(28) + """
            extend(1) = 28
            remove(7) = 3
            tick(30.0) = 60.0
            sweep() = 1
            create(7) = 8
            extend(7) = 29
            extend(7) throws IndexOutOfBoundsException
            extend(1) throws IndexOutOfBoundsException
            file(7, 1) = 1
            """);
        SCRIPT.run("Terms, TO MAKE: the row has 3, or has 2", """
            create(0) = 1
            create(1) = 2
            extend(0) = 0
            extend(0) = 1
            extend(0) = 2
            extend(0) throws IndexOutOfBoundsException
            chunk(3, 0) throws NoSuchElementException
            extend(1) = 3
            """);
        SCRIPT.run("Terms, TO MAKE: none is CHOSEN, as none is UP", """
            create(0) = 1
            up(0, false) = 0
            up(1, false) = 0
            up(2, false) = 0
            up(3, false) = 0
            extend(0) = 0
            chunk(0, 2) = 16
            up(4, false) = 1
            extend(0) throws IllegalStateException
            append(0, 1) throws IllegalStateException
            up(2, true) = 0
            extend(0) = 1
            chunk(1, 2) = 4
            """);
        SCRIPT.run("Terms, TO MAKE: none is CHOSEN, as all are FULL", Runs.fullServers() + """
            load() = 12.0
            extend(7) throws IllegalStateException
            append(7, 1) throws IllegalStateException
            extend(6) throws IllegalStateException
            """);
        SCRIPT.run("Terms, TO MAKE: the row has 3, told before that none is CHOSEN", """
            create(0) = 1
            create(1) = 2
            extend(0) = 0
            extend(0) = 1
            extend(0) = 2
            up(0, false) = 2
            up(1, false) = 2
            up(2, false) = 2
            up(3, false) = 2
            up(4, false) = 1
            extend(1) throws IllegalStateException
            extend(0) throws IndexOutOfBoundsException
            """);
        SCRIPT.run("Terms, TO MAKE: 30 are made, told before that none is CHOSEN", Runs.chunksMade(30) + """
            remove(7) = 3
            tick(30.0) = 60.0
            sweep() = 1
            create(7) = 8
            up(2, false) = 6
            extend(7) throws IndexOutOfBoundsException
            append(7, 1) throws IndexOutOfBoundsException
            """);
    }

    private static void locating() {
        SCRIPT.run("Terms, TO LOCATE: a FILE that is not THERE, though it KEEPS something", """
            locate(0, 0, 0) throws NoSuchElementException
            create(0) = 1
            extend(0) = 0
            locate(0, 0, 0) = 1
            remove(0) = 1
            locate(0, 0, 0) throws NoSuchElementException
            read(0, 0, 0, 0, 0) throws NoSuchElementException
            restore(0) = 1
            locate(0, 0, 0) = 1
            remove(0) = 1
            tick(30.0) = 30.0
            sweep() = 1
            locate(0, 0, 0) throws NoSuchElementException
            """);
        SCRIPT.run("Terms, TO LOCATE: there is no such place in a row of none to 3", """
            create(0) = 1
            locate(0, 0, 0) throws IndexOutOfBoundsException
            locate(0, 0, 1) throws IndexOutOfBoundsException
            locate(0, 0, 2) throws IndexOutOfBoundsException
            extend(0) = 0
            locate(0, 0, 0) = 1
            locate(0, 0, 1) throws IndexOutOfBoundsException
            extend(0) = 1
            locate(0, 0, 1) = 1
            locate(0, 0, 2) throws IndexOutOfBoundsException
            extend(0) = 2
            locate(0, 0, 2) = 1
            locate(0, 0, 3) throws IllegalArgumentException
            """);
        SCRIPT.run("Terms, TO LOCATE: what was kept before a sweep is kept no more", """
            create(0) = 1
            append(0, 5) = 0
            locate(0, 0, 0) = 2
            remove(0) = 1
            tick(30.0) = 30.0
            sweep() = 1
            create(0) = 1
            locate(0, 0, 0) throws IndexOutOfBoundsException
            extend(0) = 1
            locate(0, 0, 0) = 1
            """);
    }

    private static void locatingKeeps() {
        SCRIPT.run("Terms, TO LOCATE: an end above TIME, or not", """
            create(0) = 1
            extend(0) = 0
            locate(0, 0, 0) = 1
            write(0, 0, 0, 1) = 2
            tick(4.999999999999999) = 4.999999999999999
            locate(0, 0, 0) = 1
            tick(8.881784197001252E-16) = 5.0
            locate(0, 0, 0) = 2
            """);
        SCRIPT.run("Terms, TO LOCATE: what is found anew is kept to TIME plus 5.0", """
            tick(3.0) = 3.0
            create(0) = 1
            extend(0) = 0
            locate(0, 0, 0) = 1
            tick(7.0) = 10.0
            locate(0, 0, 0) = 1
            write(0, 0, 0, 1) = 2
            tick(4.5) = 14.5
            locate(0, 0, 0) = 1
            tick(0.5) = 15.0
            locate(0, 0, 0) = 2
            """);
        SCRIPT.run("Terms, TO LOCATE: to use what is kept does not keep it longer", """
            create(0) = 1
            extend(0) = 0
            locate(0, 0, 0) = 1
            write(0, 0, 0, 1) = 2
            tick(3.0) = 3.0
            locate(0, 0, 0) = 1
            read(0, 0, 0, 0, 0) = 1
            tick(2.0) = 5.0
            locate(0, 0, 0) = 2
            """);
        SCRIPT.run("Terms, TO LOCATE: the CHUNK and its HOLDERS are kept as they were", """
            create(0) = 1
            append(0, 5) = 0
            up(0, false) = 1
            locate(0, 0, 0) = 2
            write(0, 0, 0, 6) = 3
            repair() = 3
            copy(0, 1) = 1
            write(0, 0, 0, 7) = 1
            file(0, 2) = 1
            up(0, true) = 1
            read(0, 0, 0, 0, 0) = 5
            read(0, 0, 0, 0, 1) = 6
            read(0, 0, 0, 0, 3) throws UnsupportedOperationException
            tick(5.0) = 5.0
            read(0, 0, 0, 0, 0) throws UnsupportedOperationException
            read(0, 0, 0, 0, 3) = 7
            """);
    }

    private static void leasing() {
        SCRIPT.run("Terms, TO LEASE: an end above TIME, or not", """
            create(0) = 1
            extend(0) = 0
            write(0, 0, 0, 1) = 2
            tick(9.999999999999998) = 9.999999999999998
            chunk(0, 4) = 1
            write(0, 0, 0, 1) = 2
            tick(1.7763568394002505E-15) = 10.0
            chunk(0, 4) = 0
            write(0, 0, 0, 1) = 3
            """);
        SCRIPT.run("Terms, TO LEASE: a LEASE with an end above TIME is not made longer", """
            create(0) = 1
            extend(0) = 0
            write(0, 0, 0, 1) = 2
            tick(6.0) = 6.0
            write(0, 0, 0, 1) = 2
            append(0, 1) = 1
            tick(4.0) = 10.0
            chunk(0, 4) = 0
            append(0, 1) = 2
            chunk(0, 0) = 3
            """);
        SCRIPT.run("Terms, TO LEASE: all its HOLDERS are UP: nothing", """
            create(0) = 1
            extend(0) = 0
            write(0, 0, 0, 1) = 2
            up(3, false) = 0
            up(4, false) = 0
            write(0, 0, 0, 2) = 2
            up(1, false) = 1
            up(1, true) = 1
            write(0, 0, 0, 3) = 2
            look(1, 0, 2) = 3
            chunk(0, 2) = 7
            """);
        SCRIPT.run("Terms, TO LEASE: one of its HOLDERS is not UP", """
            create(0) = 1
            extend(0) = 0
            write(0, 0, 0, 1) = 2
            up(2, false) = 1
            chunk(0, 4) = 1
            write(0, 0, 0, 2) = 3
            chunk(0, 2) = 3
            up(0, false) = 1
            append(0, 3) = 1
            chunk(0, 0) = 4
            chunk(0, 2) = 2
            """);
    }

    private static void leasingAnew() {
        SCRIPT.run("Terms, TO LEASE: the VERSION rises by 1, of the REPLICAS of LIVE HOLDERS too", """
            create(0) = 1
            extend(0) = 0
            up(1, false) = 1
            write(0, 0, 2, 6) = 2
            chunk(0, 0) = 2
            chunk(0, 1) = 1
            chunk(0, 2) = 5
            look(0, 0, 0) = 2
            look(2, 0, 0) = 2
            look(1, 0, 0) = 1
            look(1, 0, 1) = 0
            look(1, 0, 4) = 0
            up(1, true) = 1
            chunk(0, 2) = 5
            """);
        SCRIPT.run("Terms, TO LEASE: then it has a LEASE to TIME plus 10.0", """
            tick(2.0) = 2.0
            create(0) = 1
            extend(0) = 0
            write(0, 0, 0, 1) = 2
            tick(9.5) = 11.5
            chunk(0, 4) = 1
            up(0, false) = 1
            write(0, 0, 0, 1) = 3
            tick(9.5) = 21.0
            chunk(0, 4) = 1
            tick(0.5) = 21.5
            chunk(0, 4) = 0
            """);
        SCRIPT.run("Terms, TO LEASE: the VERSION rises though all HOLDERS are FULL", Runs.fullServers() + """
            write(0, 0, 0, 1) = 2
            append(6, 1) = 4
            load() = 12.0
            """);
        SCRIPT.run("Terms, TO LEASE: the VERSION rises though 30 are made", Runs.chunksMade(30) + """
            write(0, 0, 0, 1) = 2
            append(1, 1) = 8
            """);
    }

    private static void leasingShared() {
        SCRIPT.run("Terms, TO LEASE: REFS are 2, then 1", """
            create(0) = 1
            extend(0) = 0
            copy(0, 1) = 1
            write(0, 0, 0, 1) = 1
            file(0, 2) = 1
            file(1, 2) = 0
            chunk(0, 1) = 1
            chunk(1, 1) = 1
            write(1, 0, 0, 1) = 2
            file(1, 2) = 0
            write(0, 0, 0, 1) = 1
            file(0, 2) = 1
            chunk(2, 0) throws NoSuchElementException
            """);
        SCRIPT.run("Terms, TO LEASE: REFS are more than 2, in THERE and HIDDEN files", """
            create(0) = 1
            extend(0) = 0
            copy(0, 1) = 1
            copy(0, 2) = 1
            remove(1) = 1
            append(0, 1) = 0
            file(0, 2) = 1
            chunk(0, 1) = 2
            append(2, 1) = 0
            file(2, 2) = 2
            chunk(0, 1) = 1
            restore(1) = 1
            append(1, 1) = 0
            file(1, 2) = 0
            """);
        SCRIPT.run("Terms, TO LEASE: a new CHUNK takes that place in the row alone", """
            create(0) = 1
            extend(0) = 0
            extend(0) = 1
            extend(0) = 2
            copy(0, 1) = 3
            write(1, 1, 0, 1) = 1
            file(1, 1) = 3
            file(1, 2) = 0
            file(1, 3) = 3
            file(1, 4) = 2
            file(0, 3) = 1
            chunk(0, 1) = 2
            chunk(1, 1) = 1
            chunk(2, 1) = 2
            chunk(3, 1) = 1
            """);
        SCRIPT.run("Terms, TO LEASE: VERSION 1, the old one's LIVE HOLDERS, REPLICAS like theirs", """
            create(0) = 1
            append(0, 5) = 0
            append(0, 6) = 1
            tick(10.0) = 10.0
            append(0, 7) = 2
            chunk(0, 0) = 3
            copy(0, 1) = 1
            up(1, false) = 1
            append(1, 8) = 3
            chunk(1, 0) = 1
            chunk(1, 2) = 5
            look(0, 1, 0) = 1
            look(2, 1, 0) = 1
            look(2, 1, 1) = 4
            look(2, 1, 2) = 5
            look(2, 1, 3) = 6
            look(2, 1, 4) = 7
            look(2, 1, 5) = 8
            look(1, 1, 0) throws NoSuchElementException
            chunk(0, 0) = 3
            chunk(0, 2) = 7
            look(2, 0, 0) = 3
            look(2, 0, 1) = 3
            look(2, 0, 5) = 0
            """);
        SCRIPT.run("Terms, TO LEASE: the new CHUNK has a LEASE to TIME plus 10.0, the old one none", """
            tick(1.0) = 1.0
            create(0) = 1
            extend(0) = 0
            copy(0, 1) = 1
            write(1, 0, 0, 1) = 1
            chunk(1, 4) = 1
            chunk(0, 4) = 0
            tick(9.5) = 10.5
            chunk(1, 4) = 1
            write(1, 0, 0, 1) = 1
            tick(0.5) = 11.0
            chunk(1, 4) = 0
            write(1, 0, 0, 1) = 2
            """);
    }

    private static void leasingIsRefused() {
        SCRIPT.run("Terms, TO LEASE: no LIVE HOLDER, though one, of a LEASE that lasts", """
            create(0) = 1
            append(0, 1) = 0
            up(0, false) = 1
            up(1, false) = 1
            append(0, 2) = 1
            chunk(0, 2) = 4
            up(2, false) = 1
            chunk(0, 4) = 1
            write(0, 0, 0, 3) throws IllegalStateException
            append(0, 3) throws IllegalStateException
            up(0, true) = 1
            write(0, 0, 0, 3) throws IllegalStateException
            up(2, true) = 1
            write(0, 0, 0, 3) = 3
            """);
        SCRIPT.run("Terms, TO LEASE: no LIVE HOLDER, of no LEASE", """
            create(0) = 1
            extend(0) = 0
            up(0, false) = 1
            up(1, false) = 1
            up(2, false) = 1
            write(0, 0, 0, 3) throws IllegalStateException
            append(0, 3) throws IllegalStateException
            up(1, true) = 1
            append(0, 3) = 0
            """);
        SCRIPT.run("Terms, TO LEASE: of a shared CHUNK, there are 29, then 30", Runs.chunksMade(29) + """
            remove(7) = 3
            tick(30.0) = 60.0
            sweep() = 1
            copy(0, 7) = 3
            write(7, 0, 0, 5) = 1
            file(7, 2) = 29
            write(7, 1, 0, 5) throws IndexOutOfBoundsException
            append(7, 5) throws IndexOutOfBoundsException
            file(7, 3) = 25
            chunk(25, 1) = 2
            """);
        SCRIPT.run("Terms, TO LEASE: of a shared CHUNK, a LIVE HOLDER has 11, then 12", Runs.onlyServer0(11) + """
            copy(0, 4) = 3
            write(4, 0, 0, 7) = 1
            file(4, 2) = 11
            up(0, true) = 12
            write(4, 1, 0, 7) throws UnsupportedOperationException
            append(4, 7) throws UnsupportedOperationException
            file(4, 3) = 1
            chunk(1, 1) = 2
            """);
        SCRIPT.run("Terms, TO LEASE: one of the LIVE HOLDERS is FULL, or FULL and not UP", Runs.onlyServer0(11) + """
            up(3, true) = 0
            up(4, true) = 0
            extend(3) = 11
            chunk(11, 2) = 25
            copy(3, 4) = 3
            write(4, 2, 0, 7) throws UnsupportedOperationException
            up(0, false) = 12
            write(4, 2, 0, 7) = 1
            file(4, 4) = 12
            chunk(12, 2) = 24
            """);
        SCRIPT.run("Terms, TO LEASE: a FULL SERVER that is no HOLDER", Runs.onlyServer0(12) + """
            up(1, true) = 0
            create(4) = 5
            extend(4) = 12
            chunk(12, 2) = 2
            copy(4, 5) = 1
            write(5, 0, 0, 7) = 1
            chunk(13, 2) = 2
            """);
        SCRIPT.run("Terms, TO LEASE: no LIVE HOLDER is told before 30 CHUNKS", Runs.chunksMade(30) + """
            remove(7) = 3
            tick(30.0) = 60.0
            sweep() = 1
            copy(0, 7) = 3
            up(2, false) = 6
            write(7, 0, 0, 5) throws IllegalStateException
            append(7, 5) throws IllegalStateException
            """);
        SCRIPT.run("Terms, TO LEASE: 30 CHUNKS are told before a FULL HOLDER", Runs.chunksMade(30) + """
            remove(7) = 3
            tick(30.0) = 60.0
            sweep() = 1
            copy(2, 7) = 3
            up(0, true) = 12
            write(7, 0, 0, 5) throws IndexOutOfBoundsException
            append(7, 5) throws IndexOutOfBoundsException
            """);
    }

    private static void orderOfExceptions() {
        SCRIPT.run("Terms: a number out of range is told before a FILE that is not THERE", """
            create(0) = 1
            extend(0) = 0
            remove(0) = 1
            copy(0, 8) throws IllegalArgumentException
            locate(3, 0, 0) throws IllegalArgumentException
            locate(0, 0, 3) throws IllegalArgumentException
            write(0, 3, 0, 0) throws IllegalArgumentException
            write(0, 0, 4, 0) throws IllegalArgumentException
            read(0, 0, 0, 0, 5) throws IllegalArgumentException
            read(0, 0, 0, 4, 0) throws IllegalArgumentException
            read(0, 0, 3, 0, 0) throws IllegalArgumentException
            read(3, 0, 0, 0, 0) throws IllegalArgumentException
            look(4, 1, 6) throws IllegalArgumentException
            chunk(1, 5) throws IllegalArgumentException
            """);
        SCRIPT.run("Terms: a number out of range is told before a place that is not in the row", """
            create(0) = 1
            locate(3, 0, 0) throws IllegalArgumentException
            write(0, 0, 4, 0) throws IllegalArgumentException
            read(0, 0, 0, 0, 5) throws IllegalArgumentException
            read(0, 0, 0, 4, 0) throws IllegalArgumentException
            """);
        SCRIPT.run("Terms: a FILE that is not THERE is told before a place that is not in the row", """
            locate(0, 1, 2) throws NoSuchElementException
            write(1, 2, 0, 0) throws NoSuchElementException
            read(0, 1, 2, 0, 0) throws NoSuchElementException
            create(1) = 1
            remove(1) = 0
            locate(0, 1, 2) throws NoSuchElementException
            write(1, 2, 0, 0) throws NoSuchElementException
            read(0, 1, 2, 0, 0) throws NoSuchElementException
            """);
        SCRIPT.run("Terms: a place that is not in the row is told before what SERVERS hinder", """
            create(0) = 1
            extend(0) = 0
            up(0, false) = 1
            up(1, false) = 1
            up(2, false) = 1
            write(0, 1, 0, 0) throws IndexOutOfBoundsException
            read(0, 0, 1, 0, 0) throws IndexOutOfBoundsException
            read(0, 0, 1, 0, 4) throws IndexOutOfBoundsException
            """);
    }

    private static void whatWasDoneStays() {
        SCRIPT.run("Terms: what was done before stays done: read has LOCATED", """
            create(0) = 1
            extend(0) = 0
            read(0, 0, 0, 0, 3) throws UnsupportedOperationException
            up(2, false) = 1
            read(1, 0, 0, 0, 2) throws IllegalStateException
            tick(1.0) = 1.0
            write(0, 0, 0, 1) = 2
            locate(0, 0, 0) = 1
            locate(1, 0, 0) = 1
            locate(2, 0, 0) = 2
            tick(3.5) = 4.5
            read(0, 0, 0, 0, 3) throws UnsupportedOperationException
            locate(0, 0, 0) = 1
            tick(0.5) = 5.0
            locate(0, 0, 0) = 2
            locate(1, 0, 0) = 2
            """);
        SCRIPT.run("Terms: what was done before stays done: a read that found no place KEEPS nothing", """
            create(0) = 1
            extend(0) = 0
            read(0, 0, 1, 0, 0) throws IndexOutOfBoundsException
            extend(0) = 1
            write(0, 1, 0, 1) = 2
            locate(0, 0, 1) = 2
            """);
    }
}
