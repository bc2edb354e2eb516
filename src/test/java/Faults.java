/** Prints and counts what is not as due. */
final class Faults {
    private int count;

    void expect(boolean holds, String otherwise) {
        if (!holds) {
            count++;
            System.out.println(otherwise);
        }
    }

    void finish() {
        System.out.println(count == 0 ? "all is as due" : count + " faults");
        if (count != 0) {
            System.exit(1);
        }
    }
}
