import java.util.Arrays;

/** Rows of calls that several tests begin with. */
final class Rows {
    /** The next number is 399: all records but the first two are writes of 7 to block 0 of file 0. */
    static final String[] TO_399 = {
        "configure(400, 9999, 100) = 0", "join(1) = 0", "begin() = 0",
        "say repeat 4(repeat 48(write 0 0 7;););", "run() = 197",
        "say repeat 4(repeat 48(write 0 0 7;););", "run() = 197",
        "13 * write(0, 0, 7, NONE) = 386..398", "state(0) = 399"};

    /** The next number is 400: a consumer has a message to read, the transaction 0 is open. */
    static final String[] TO_400 = with(TO_399, "send(1, 8, 9, NONE) = 399", "state(0) = 400");

    /** A log that could be trimmed, but is not, since only a crash has been since. */
    static final String[] TO_BE_TRIMMED = {
        "configure(40, 9999, 0) = 0", "join(0) = 0", "checkpoint() = 1", "2 * begin() = 0 1", "send(1, 0, 20, NONE) = 4",
        "flush() = 3", "state(4) = 2", "crash(5) = 0", "state(4) = 5", "state(2) = 0"};

    private Rows() {
    }

    static String[] with(String[] first, String... more) {
        String[] all = Arrays.copyOf(first, first.length + more.length);
        System.arraycopy(more, 0, all, first.length, more.length);
        return all;
    }
}
