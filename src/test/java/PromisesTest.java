/** Ordinary runs of calls for the promises of the document; boundary cases have tests of their own. */
public final class PromisesTest {
    private static final Script SCRIPT = new Script();

    public static void main(String[] args) {
        create();
        remove();
        restore();
        copy();
        extend();
        locate();
        write();
        writeToShared();
        append();
        read();
        readOfOldLocations();
        up();
        report();
        repair();
        repairOrder();
        sweep();
        load();
        look();
        file();
        chunk();
        SCRIPT.finish();
    }

    private static void create() {
        SCRIPT.run("Promise 2: create", """
            create(7) = 1
            create(0) = 2
            create(0) throws IllegalStateException
            file(0, 0) = 1
            file(0, 1) = 0
            remove(0) = 0
            create(0) throws IllegalStateException
            create(1) = 2
            restore(0) = 0
            create(2) = 4
            """);
    }

    private static void remove() {
        SCRIPT.run("Promise 3: remove", """
            remove(0) throws NoSuchElementException
            create(0) = 1
            extend(0) = 0
            extend(0) = 1
            remove(0) = 2
            remove(0) throws NoSuchElementException
            file(0, 0) = 2
            file(0, 1) = 2
            file(0, 2) = 0
            file(0, 3) = 1
            chunk(0, 1) = 1
            extend(0) throws NoSuchElementException
            append(0, 1) throws NoSuchElementException
            write(0, 0, 0, 1) throws NoSuchElementException
            read(0, 0, 0, 0, 0) throws NoSuchElementException
            copy(0, 1) throws NoSuchElementException
            """);
    }

    private static void restore() {
        SCRIPT.run("Promise 4: restore", """
            restore(0) throws NoSuchElementException
            create(0) = 1
            restore(0) throws NoSuchElementException
            append(0, 5) = 0
            extend(0) = 1
            remove(0) = 2
            restore(0) = 2
            file(0, 0) = 1
            file(0, 3) = 1
            read(0, 0, 0, 0, 0) = 5
            remove(0) = 2
            tick(100.0) = 100.0
            restore(0) = 2
            sweep() = 0
            remove(0) = 2
            tick(30.0) = 130.0
            sweep() = 1
            restore(0) throws NoSuchElementException
            """);
    }

    private static void copy() {
        SCRIPT.run("Promise 5: copy", """
            copy(0, 1) throws NoSuchElementException
            create(1) = 1
            copy(0, 1) throws NoSuchElementException
            create(0) = 2
            copy(0, 0) throws IllegalStateException
            copy(0, 1) throws IllegalStateException
            copy(0, 2) = 0
            file(2, 0) = 1
            append(0, 5) = 0
            append(0, 6) = 1
            extend(0) = 1
            chunk(0, 4) = 1
            copy(0, 3) = 2
            chunk(0, 4) = 0
            chunk(0, 0) = 2
            chunk(0, 1) = 2
            chunk(1, 1) = 2
            file(3, 0) = 1
            file(3, 1) = 2
            file(3, 2) = 0
            file(3, 3) = 1
            file(3, 4) = -1
            read(0, 3, 0, 1, 0) = 6
            copy(3, 4) = 2
            chunk(0, 1) = 3
            remove(4) = 2
            copy(0, 4) throws IllegalStateException
            create(5) = 5
            """);
    }

    private static void extend() {
        SCRIPT.run("Promise 6: extend", """
            extend(0) throws NoSuchElementException
            create(0) = 1
            create(1) = 2
            extend(0) = 0
            chunk(0, 0) = 1
            chunk(0, 1) = 1
            chunk(0, 2) = 7
            chunk(0, 3) = 3
            chunk(0, 4) = 0
            look(1, 0, 0) = 1
            look(1, 0, 1) = 0
            look(1, 0, 2) = 0
            look(1, 0, 5) = 0
            look(3, 0, 0) throws NoSuchElementException
            extend(1) = 1
            chunk(1, 2) = 25
            extend(0) = 2
            chunk(2, 2) = 14
            extend(0) = 3
            file(0, 4) = 3
            extend(0) throws IndexOutOfBoundsException
            extend(1) = 4
            """);
        SCRIPT.run("Promise 6: extend with few servers", """
            create(0) = 1
            up(0, false) = 0
            up(2, false) = 0
            up(4, false) = 0
            extend(0) = 0
            chunk(0, 2) = 10
            up(1, false) = 1
            up(3, false) = 1
            extend(0) throws IllegalStateException
            file(0, 1) = 1
            chunk(1, 0) throws NoSuchElementException
            up(1, true) = 1
            up(4, true) = 0
            extend(0) = 1
            chunk(1, 2) = 18
            """);
    }

    private static void locate() {
        SCRIPT.run("Promise 7: locate", """
            locate(0, 0, 0) throws NoSuchElementException
            create(0) = 1
            locate(0, 0, 0) throws IndexOutOfBoundsException
            extend(0) = 0
            locate(0, 0, 0) = 1
            locate(0, 0, 1) throws IndexOutOfBoundsException
            write(0, 0, 0, 5) = 2
            locate(0, 0, 0) = 1
            locate(1, 0, 0) = 2
            copy(0, 1) = 1
            locate(0, 1, 0) = 2
            extend(0) = 1
            locate(0, 0, 1) = 1
            tick(4.9) = 4.9
            locate(0, 0, 0) = 1
            remove(0) = 2
            locate(0, 0, 0) throws NoSuchElementException
            restore(0) = 2
            locate(0, 0, 0) = 1
            tick(0.125) = 5.025
            locate(0, 0, 0) = 2
            """);
    }

    private static void write() {
        SCRIPT.run("Promise 8: write", """
            write(0, 0, 0, 1) throws NoSuchElementException
            create(0) = 1
            write(0, 0, 0, 1) throws IndexOutOfBoundsException
            extend(0) = 0
            write(0, 1, 0, 1) throws IndexOutOfBoundsException
            write(0, 0, 1, -2147483648) = 2
            chunk(0, 0) = 2
            chunk(0, 4) = 1
            look(0, 0, 0) = 2
            look(2, 0, 0) = 2
            look(0, 0, 1) = 2
            look(0, 0, 2) = 0
            look(0, 0, 3) = -2147483648
            look(2, 0, 3) = -2147483648
            write(0, 0, 0, 9) = 2
            look(1, 0, 1) = 2
            look(1, 0, 2) = 9
            write(0, 0, 3, 2147483647) = 2
            look(1, 0, 1) = 4
            look(1, 0, 5) = 2147483647
            tick(9.9) = 9.9
            chunk(0, 4) = 1
            write(0, 0, 0, 1) = 2
            tick(0.125) = 10.025
            chunk(0, 4) = 0
            write(0, 0, 0, 1) = 3
            look(0, 0, 0) = 3
            """);
        SCRIPT.run("Promise 8: write while holders are not up", """
            create(0) = 1
            extend(0) = 0
            write(0, 0, 0, 1) = 2
            up(0, false) = 1
            write(0, 0, 0, 2) = 3
            chunk(0, 2) = 6
            chunk(0, 3) = 2
            look(0, 0, 0) = 2
            look(0, 0, 2) = 1
            look(1, 0, 0) = 3
            look(1, 0, 2) = 2
            up(1, false) = 1
            up(2, false) = 1
            write(0, 0, 0, 3) throws IllegalStateException
            chunk(0, 0) = 3
            chunk(0, 2) = 6
            chunk(0, 3) = 0
            chunk(0, 4) = 1
            up(0, true) = 1
            write(0, 0, 0, 3) throws IllegalStateException
            up(1, true) = 1
            up(2, true) = 1
            write(0, 0, 0, 3) = 3
            tick(10.0) = 10.0
            up(2, false) = 1
            write(0, 0, 0, 4) = 4
            chunk(0, 2) = 2
            """);
    }

    private static void writeToShared() {
        SCRIPT.run("Promise 8: write to a shared chunk", """
            create(0) = 1
            append(0, 5) = 0
            append(0, 6) = 1
            write(0, 0, 0, 7) = 2
            copy(0, 1) = 1
            up(0, false) = 1
            write(1, 0, 2, 8) = 1
            file(1, 2) = 1
            file(0, 2) = 0
            chunk(1, 0) = 1
            chunk(1, 1) = 1
            chunk(1, 2) = 6
            chunk(1, 4) = 1
            chunk(0, 0) = 2
            chunk(0, 1) = 1
            chunk(0, 2) = 7
            chunk(0, 4) = 0
            look(0, 1, 0) throws NoSuchElementException
            look(1, 1, 0) = 1
            look(1, 1, 1) = 3
            look(1, 1, 2) = 7
            look(1, 1, 3) = 6
            look(1, 1, 4) = 8
            look(1, 0, 0) = 2
            look(1, 0, 1) = 2
            look(1, 0, 4) = 0
            up(0, true) = 1
            write(1, 0, 0, 1) = 1
            write(0, 0, 0, 2) = 3
            file(0, 2) = 0
            look(1, 1, 2) = 1
            look(1, 0, 2) = 2
            """);
        SCRIPT.run("Promise 8: a chunk that a hidden file has is shared", """
            create(0) = 1
            extend(0) = 0
            copy(0, 1) = 1
            remove(0) = 1
            write(1, 0, 0, 3) = 1
            file(1, 2) = 1
            file(0, 2) = 0
            restore(0) = 1
            read(0, 0, 0, 0, 0) = 0
            read(0, 1, 0, 0, 0) = 3
            """);
        SCRIPT.run("Promise 8: a chunk is shared no more after a sweep", """
            create(0) = 1
            extend(0) = 0
            copy(0, 1) = 1
            remove(0) = 1
            tick(30.0) = 30.0
            sweep() = 1
            write(1, 0, 0, 3) = 2
            file(1, 2) = 0
            """);
    }

    private static void append() {
        SCRIPT.run("Promise 9: append", """
            append(0, 1) throws NoSuchElementException
            create(0) = 1
            append(0, 11) = 0
            chunk(0, 0) = 2
            chunk(0, 4) = 1
            append(0, 12) = 1
            chunk(0, 0) = 2
            look(0, 0, 1) = 2
            look(2, 0, 2) = 11
            look(2, 0, 3) = 12
            write(0, 0, 2, 13) = 2
            append(0, 14) = 3
            file(0, 1) = 1
            append(0, 15) = 4
            file(0, 1) = 2
            look(3, 1, 2) = 15
            extend(0) = 2
            append(0, 16) = 8
            append(0, 17) = 9
            append(0, 18) = 10
            append(0, -19) = 11
            look(1, 2, 5) = -19
            append(0, 20) throws IndexOutOfBoundsException
            file(0, 1) = 3
            """);
        SCRIPT.run("Promise 9: append to a shared chunk", """
            create(0) = 1
            append(0, 1) = 0
            copy(0, 1) = 1
            append(1, 2) = 1
            file(1, 2) = 1
            look(0, 0, 1) = 1
            look(0, 1, 1) = 2
            look(0, 1, 2) = 1
            look(0, 1, 3) = 2
            append(0, 3) = 1
            look(0, 0, 3) = 3
            write(0, 0, 3, 4) = 3
            copy(0, 2) = 1
            append(2, 5) = 4
            file(2, 2) = 0
            file(2, 3) = 2
            chunk(0, 1) = 2
            """);
    }

    private static void read() {
        SCRIPT.run("Promise 10: read", """
            read(0, 0, 0, 0, 0) throws NoSuchElementException
            create(0) = 1
            read(0, 0, 0, 0, 0) throws IndexOutOfBoundsException
            extend(0) = 0
            read(0, 0, 0, 0, 0) = 0
            write(0, 0, 3, 7) = 2
            read(0, 0, 0, 3, 0) = 7
            read(0, 0, 0, 3, 2) = 7
            read(0, 0, 0, 3, 3) throws UnsupportedOperationException
            up(3, false) = 0
            read(0, 0, 0, 3, 3) throws UnsupportedOperationException
            up(1, false) = 1
            read(0, 0, 0, 3, 1) throws IllegalStateException
            read(0, 0, 1, 3, 1) throws IndexOutOfBoundsException
            """);
    }

    private static void readOfOldLocations() {
        SCRIPT.run("Promise 10: read of a replica that is older, or gone", """
            create(0) = 1
            append(0, 1) = 0
            locate(0, 0, 0) = 2
            up(2, false) = 1
            write(0, 0, 0, 9) = 3
            up(2, true) = 1
            read(0, 0, 0, 0, 2) = 1
            read(0, 0, 0, 0, 1) = 9
            read(1, 0, 0, 0, 2) throws UnsupportedOperationException
            report(2) = 1
            read(0, 0, 0, 0, 2) throws IllegalStateException
            repair() = 2
            read(0, 0, 0, 0, 2) = 9
            read(1, 0, 0, 0, 2) throws UnsupportedOperationException
            tick(5.0) = 5.0
            read(1, 0, 0, 0, 2) = 9
            """);
        SCRIPT.run("Promise 10: read from a holder that fell behind", """
            create(0) = 1
            append(0, 1) = 0
            up(0, false) = 1
            tick(1.0) = 1.0
            locate(0, 0, 0) = 2
            write(0, 0, 0, 9) = 3
            locate(1, 0, 0) = 3
            up(0, true) = 1
            read(0, 0, 0, 0, 0) = 1
            read(1, 0, 0, 0, 0) throws UnsupportedOperationException
            """);
        SCRIPT.run("Promise 10: read of a chunk that stood there", """
            create(0) = 1
            append(0, 1) = 0
            copy(0, 1) = 1
            locate(0, 1, 0) = 2
            write(1, 0, 0, 2) = 1
            read(0, 1, 0, 0, 0) = 1
            read(1, 1, 0, 0, 0) = 2
            locate(0, 1, 0) = 2
            tick(5.0) = 5.0
            read(0, 1, 0, 0, 0) = 2
            locate(0, 1, 0) = 1
            """);
    }

    private static void up() {
        SCRIPT.run("Promise 11: up", """
            up(0, true) = 0
            create(0) = 1
            extend(0) = 0
            up(0, false) = 1
            up(0, false) = 1
            chunk(0, 2) = 7
            chunk(0, 3) = 2
            look(0, 0, 0) = 1
            extend(0) = 1
            chunk(1, 2) = 26
            up(0, true) = 1
            chunk(0, 3) = 3
            up(1, true) = 2
            """);
    }

    private static void report() {
        SCRIPT.run("Promise 12: report", """
            up(0, false) = 0
            report(0) throws IllegalStateException
            up(0, true) = 0
            create(0) = 1
            extend(0) = 0
            report(0) = 0
            chunk(0, 2) = 7
            up(0, false) = 1
            write(0, 0, 0, 1) = 2
            report(0) throws IllegalStateException
            look(0, 0, 0) = 1
            up(0, true) = 1
            chunk(0, 2) = 6
            report(0) = 1
            chunk(0, 2) = 6
            look(0, 0, 0) throws NoSuchElementException
            up(0, true) = 0
            report(0) = 0
            report(1) = 0
            """);
        SCRIPT.run("Promise 12: report of chunks in no row", """
            create(0) = 1
            extend(0) = 0
            extend(0) = 1
            create(1) = 2
            extend(1) = 2
            remove(0) = 2
            tick(30.0) = 30.0
            report(0) = 0
            sweep() = 1
            chunk(0, 2) = 7
            look(0, 0, 0) = 1
            report(0) = 2
            chunk(0, 2) = 6
            chunk(1, 2) = 24
            chunk(2, 2) = 14
            report(1) = 1
            report(2) = 1
            chunk(0, 2) = 0
            chunk(0, 0) = 1
            chunk(0, 1) = 0
            look(1, 2, 0) = 1
            """);
    }

    private static void repair() {
        SCRIPT.run("Promise 13: repair", """
            repair() throws NoSuchElementException
            create(0) = 1
            append(0, 5) = 0
            append(0, 6) = 1
            repair() throws NoSuchElementException
            up(0, false) = 1
            repair() = 3
            chunk(0, 2) = 15
            chunk(0, 3) = 3
            chunk(0, 0) = 2
            chunk(0, 4) = 1
            look(3, 0, 0) = 2
            look(3, 0, 1) = 2
            look(3, 0, 2) = 5
            look(3, 0, 3) = 6
            repair() throws NoSuchElementException
            up(1, false) = 1
            repair() = 4
            up(2, false) = 1
            repair() throws NoSuchElementException
            up(3, false) = 1
            up(4, false) = 1
            repair() throws NoSuchElementException
            up(0, true) = 1
            repair() throws NoSuchElementException
            chunk(0, 2) = 31
            """);
    }

    private static void repairOrder() {
        SCRIPT.run("Promise 13: repair takes the fewest holders first, then the first chunk", """
            create(0) = 1
            up(2, false) = 0
            up(3, false) = 0
            up(4, false) = 0
            extend(0) = 0
            up(1, false) = 1
            extend(0) = 1
            extend(0) = 2
            up(1, true) = 1
            up(3, true) = 0
            chunk(0, 3) = 2
            chunk(1, 3) = 1
            repair() = 13
            repair() = 21
            repair() = 3
            repair() = 11
            repair() = 23
            repair() throws NoSuchElementException
            """);
        SCRIPT.run("Promise 13: repair passes by what no server can take", """
            create(0) = 1
            up(2, false) = 0
            up(3, false) = 0
            up(4, false) = 0
            extend(0) = 0
            up(0, false) = 1
            extend(0) = 1
            up(0, true) = 1
            write(0, 0, 0, 1) = 2
            up(1, false) = 2
            write(0, 0, 0, 2) = 3
            chunk(0, 2) = 1
            up(1, true) = 2
            chunk(0, 3) = 1
            repair() = 10
            repair() throws NoSuchElementException
            report(1) = 1
            repair() = 1
            look(1, 0, 2) = 2
            """);
    }

    private static void sweep() {
        SCRIPT.run("Promise 14: sweep", """
            sweep() = 0
            create(0) = 1
            create(1) = 2
            create(2) = 3
            extend(0) = 0
            extend(0) = 1
            copy(0, 3) = 2
            remove(0) = 2
            tick(1.0) = 1.0
            remove(1) = 0
            tick(28.5) = 29.5
            sweep() = 0
            file(0, 0) = 2
            tick(0.5) = 30.0
            sweep() = 1
            file(0, 0) = 0
            file(0, 1) = 0
            file(0, 2) = -1
            file(1, 0) = 2
            chunk(0, 1) = 1
            chunk(1, 1) = 1
            sweep() = 0
            create(0) = 3
            file(0, 1) = 0
            extend(0) = 2
            file(0, 2) = 2
            remove(0) = 1
            remove(2) = 0
            tick(100.0) = 130.0
            sweep() = 3
            file(3, 0) = 1
            chunk(2, 1) = 0
            chunk(2, 3) = 3
            """);
    }

    private static void load() {
        SCRIPT.run("Promise 16: load", """
            load() = 0.0
            create(0) = 1
            extend(0) = 0
            load() = 0.6
            up(3, false) = 0
            load() = 0.75
            up(4, false) = 0
            load() = 1.0
            up(0, false) = 1
            up(1, false) = 1
            up(2, false) = 1
            load() throws ArithmeticException
            up(4, true) = 0
            load() = 0.0
            up(2, true) = 1
            load() = 0.5
            up(3, true) = 0
            load() = 0.3333333333333333
            """);
    }

    private static void look() {
        SCRIPT.run("Promise 17: look", """
            look(0, 29, 5) throws NoSuchElementException
            create(0) = 1
            append(0, 1) = 0
            append(0, 2) = 1
            append(0, 3) = 2
            look(0, 0, 0) = 2
            look(0, 0, 1) = 3
            look(0, 0, 2) = 1
            look(0, 0, 3) = 2
            look(0, 0, 4) = 3
            look(0, 0, 5) = 0
            append(0, 4) = 3
            look(0, 0, 5) = 4
            look(3, 0, 0) throws NoSuchElementException
            look(0, 1, 0) throws NoSuchElementException
            up(0, false) = 1
            look(0, 0, 5) = 4
            """);
    }

    private static void file() {
        SCRIPT.run("Promise 18: file", """
            file(0, 0) = 0
            file(0, 1) = 0
            file(0, 4) = -1
            create(0) = 1
            create(1) = 2
            extend(1) = 0
            extend(0) = 1
            extend(1) = 2
            file(0, 0) = 1
            file(0, 1) = 1
            file(0, 2) = 1
            file(0, 3) = -1
            file(1, 1) = 2
            file(1, 2) = 0
            file(1, 3) = 2
            file(1, 4) = -1
            remove(1) = 2
            file(1, 0) = 2
            file(1, 1) = 2
            file(1, 3) = 2
            """);
    }

    private static void chunk() {
        SCRIPT.run("Promise 19: chunk", """
            chunk(0, 0) throws NoSuchElementException
            chunk(29, 4) throws NoSuchElementException
            create(0) = 1
            extend(0) = 0
            chunk(0, 4) = 0
            write(0, 0, 0, 1) = 2
            chunk(0, 0) = 2
            chunk(0, 1) = 1
            chunk(0, 2) = 7
            chunk(0, 3) = 3
            chunk(0, 4) = 1
            chunk(1, 0) throws NoSuchElementException
            up(1, false) = 1
            chunk(0, 2) = 7
            chunk(0, 3) = 2
            chunk(0, 4) = 1
            tick(9.5) = 9.5
            chunk(0, 4) = 1
            tick(0.5) = 10.0
            chunk(0, 4) = 0
            extend(0) = 1
            chunk(1, 2) = 25
            """);
    }
}
