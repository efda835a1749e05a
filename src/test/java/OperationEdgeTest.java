import java.io.IOException;
import java.util.ArrayList;
import java.util.List;

/** Promise 1 and the operations, promises 9 to 23: the edges that their sentences name. */
public final class OperationEdgeTest {
    private static final Check check = new Check();

    private static void newObject(Sentences s) {
        s.part("Promise 1");
        String sentence = "Creates an empty log with a segment capacity of 100, a limit of 300, and room for 20 spilled messages.";
        s.test(sentence, "state(0..10) = 0", "segments() = 1", "segment(0, 0..4) = 0", "fill(0) = 0/1", "transaction(0..3, 0) = 0",
            "transaction(0..3, 1..2) = NONE", "block(0..7, 0..3) = NONE", "blockAt(0, 0..7, 0..3) = NONE", "visibleAt(0, 0..3) = 0",
            "holder() = 0", "errorCode() = 0", "errorPosition() = NONE", "failure() = 0", "failurePosition() = NONE", "truncate(0) = 0",
            "run() = 0", "flush() = 0", "configure(100, 300, 20) = 0");
        s.test(sentence, "slowest() ! element", "order(0, 0) ! element", "visible(0..3, 0) ! element", "message(0, 0) ! index",
            "record(0, 0) ! index", "damage(0) ! index", "segment(1, 0) ! index", "fill(1) ! index", "consumer(0, 0) ! index",
            "lag(0) ! index", "wouldFree(0) ! index", "positionAt(0, 0) ! index", "read(0, 1) ! index", "commit(0..3) ! state",
            "truncate(1) ! argument", "crash(1) ! argument", "blockAt(1, 0, 0) ! argument");
        s.test(sentence, "5 * send(0, 0, 10, NONE) = 0..4", "segments() = 1", "fill(0) = 1/1", "begin() = 0", "segments() = 2");
        s.test(sentence, "4 * send(0, 0, 10, NONE) = 0..3", "send(0, 0, 11, NONE) = 4", "segments() = 2");
        s.test(sentence, "join(0) = 0", "9 * send(0, 0, 20, NONE) = 1..9", "send(0, 0, 12, NONE) = 10", "state(3|9) = 300 0");
        s.test(sentence, "join(0) = 0", "9 * send(0, 0, 20, NONE) = 1..9", "send(0, 0, 13, NONE) = 10", "state(3|9) = 301 10");
        s.test(sentence, "join(0) = 0", "begin() = 0", "20 * send(0, 0, 20, 0) = 2..21", "commit(0) = 20", "state(9) = 20");
        s.test(sentence, "join(0) = 0", "begin() = 0", "21 * send(0, 0, 20, 0) = 2..22", "commit(0) = 21", "state(9) = 0");
    }

    private static void configure(Sentences s) {
        s.part("Promise 9");
        s.quote("---- operations");
        String[] used = {"join(0) = 0", "begin() = 0", "write(1, 1, 1, 0) = 2", "send(0, 1, 1, NONE) = 3", "read(0, 1) = 1",
            "checkpoint() = 5", "write(2, 2, 2, NONE) = 6", "damage(6) = 1"};
        String[] scripts = Rows.with(used, "say flush;x", "run() = NONE", "say commit 9;", "run() = 1", "say x", "run() = NONE", "say flush;");
        s.test("Makes everything as at first, with other settings. Only the buffer and what errorCode, errorPosition, failure and "
            + "failurePosition tell stay.", Rows.with(scripts, "configure(40, 60, 1) = 7", "state(0..10) = 0", "segments() = 1",
            "segment(0, 0..4) = 0", "transaction(0..3, 0) = 0", "block(0..7, 0..3) = NONE", "visibleAt(0, 0..3) = 0", "message(0, 0) ! index",
            "consumer(0, 0) ! index", "errorCode() = 1", "errorPosition() = 0", "failure() = 1", "failurePosition() = 0", "run() = 1",
            "join(3) = 0", "positionAt(0, 0) = NONE", "begin() = 0", "transaction(0, 1..2) = 1 0", "blockAt(2, 1..2, 1) = NONE"));
        asAtFirst("40, 60, 1", used);
        asAtFirst("100, 300, 20", "4 * begin() = 0..3", "6 * join(0) = 0..5", "9 * send(0, 1, 20, 3) = 10..18", "commit(3) = 9", "read(5, 3) = 3",
            "state(9) = 18", "checkpoint() = 21", "9 * write(7, 3, 5, 2) = 22..30", "commit(2) = 9", "send(0..3, 1, 20, NONE) = 32..35",
            "damage(35) = 1", "abort(0) = 0", "flush() = 15", "write(6, 3, 5, NONE) = 37", "damage(37) = 1");
        asAtFirst("400, 9999, 100", Rows.TO_400);
        asAtFirst("400, 9999, 100", "write(0..7, 0..3, 9, NONE) = 0..31", "join(0) = 0", "checkpoint() = 33");
        asAtFirst("400, 9999, 100", "configure(400, 40, 100) = 0", "6 * join(0) = 0..5", "3 * send(0, 1, 20, NONE) = 6..8", "read(0, 1) = 1",
            "state(9) = 17", "consumer(0..5, 3) = 2 3 3 3 3 3");
        asAtFirst("40, 40, 0", "configure(40, 9999, 0) = 0", "9 * send(1, 0, 20, NONE) = 0..8", "flush() = 9", "join(1) = 0", "state(5) = 8",
            "send(1, 0, 20, NONE) = 10", "crash(11) = 0");
        String segment = "- `segment`: capacity of a segment in bytes, 40 to 400";
        s.test(segment, "configure(40, 9999, 0) = 0", "4 * send(0, 0, 0, NONE) = 0..3", "segments() = 1", "begin() = 0", "segments() = 2",
            "fill(0..1) = 40/40 4/40");
        s.test(segment, "configure(40, 9999, 0) = 0", "3 * send(0, 0, 0, NONE) = 0..2", "send(0, 0, 1, NONE) = 3", "segments() = 2");
        s.test(segment, "configure(400, 9999, 0) = 0", "20 * send(0, 0, 10, NONE) = 0..19", "segments() = 1", "begin() = 0", "segments() = 2",
            "fill(0..1) = 400/400 4/400");
        s.test(segment, "configure(400, 9999, 0) = 0", "19 * send(0, 0, 10, NONE) = 0..18", "send(0, 0, 11, NONE) = 19", "segments() = 2");
        String limit = "- `limit`: limit of the log in bytes, 40 to 9999";
        s.test(limit, "configure(400, 40, 9) = 0", "join(0) = 0", "send(0, 0, 20, NONE) = 1", "state(3|9) = 38 0", "begin() = 0",
            "state(3|9) = 42 1");
        s.test(limit, "configure(400, 40, 9) = 0", "join(0) = 0", "send(0, 0, 12, NONE) = 1", "send(0, 0, 0, NONE) = 2", "state(3|9) = 40 0");
        String[] many = {"configure(400, 9999, 9) = 0", "join(0) = 0", "say repeat 4(repeat 48(send 1 0 20;););", "run() = 197",
            "say repeat 2(repeat 48(send 1 0 20;););", "run() = 99", "44 * send(1, 0, 20, NONE) = 289..332", "send(1, 0, 0, NONE) = 333"};
        s.test(limit, Rows.with(many, "send(0, 0, 11, NONE) = 334", "state(3|9) = 9999 0", "begin() = 0", "state(3|9) = 10003 1"));
        s.test(limit, Rows.with(many, "send(0, 0, 12, NONE) = 334", "state(3|9) = 10000 1"));
        String spill = "- `spill`: how many messages can be spilled in all, 0 to 100";
        s.test(spill, "configure(400, 40, 0) = 0", "join(0) = 0", "2 * send(0, 0, 20, NONE) = 1 2", "state(3|9) = 68 0");
        s.test(spill, "configure(400, 40, 1) = 0", "join(0) = 0", "send(0, 0, 20, NONE) = 1", "begin() = 0", "state(9) = 1",
            "send(0, 0, 20, NONE) = 3", "state(9) = 1");
        String[] hundred = {"configure(400, 40, 100) = 0", "join(0) = 0", "begin() = 0", "say repeat 2(repeat 50(send 0 0 20 in 0;););",
            "run() = 103"};
        s.test(spill, Rows.with(hundred, "commit(0) = 100", "state(9) = 100", "send(0, 0, 0, NONE) = 103", "state(9) = 100"));
        s.test(spill, Rows.with(hundred, "send(0, 0, 0, 0) = 102", "commit(0) = 101", "state(9) = 0"));
        String records = "Returns the number of records that there were in the log.";
        s.test(records, "configure(40, 40, 0) = 0", "write(0, 0, 1, NONE) = 0", "configure(40, 9999, 0) = 1", "4 * send(0, 0, 20, NONE) = 0..3",
            "flush() = 4", "state(2) = 3", "configure(40, 40, 0) = 1", "write(0, 0, 1, NONE) = 0", "crash(0) = 1", "configure(100, 300, 20) = 0");
        s.test(records, Rows.with(Rows.TO_400, "configure(40, 40, 0) = 400", "configure(40, 40, 0) = 0"));
        s.test("Throws `IllegalArgumentException` if an argument is out of range", Rows.with(scripts,
            "configure(39|401|0|-1|LEAST|MOST, 40, 0) ! argument", "configure(40, 39|10000|0|-1|LEAST|MOST, 0) ! argument",
            "configure(40, 40, -1|101|LEAST|MOST) ! argument", "configure(39, 39, -1) ! argument", "configure(401, 10000, 101) ! argument",
            "configure(40|400, 40|9999, 0|100) = 7 0 0 0 0 0 0 0"));
    }

    /** After configure, a used object is like a new one with the same settings; no script has failed. */
    private static void asAtFirst(String settings, String... rows) {
        List<Call> used = new Run(check, rows).calls();
        List<Call> fresh = new ArrayList<>();
        for (List<Call> calls : List.of(used, fresh)) calls.addAll(Call.read("configure(" + settings + ")"));
        check.due("what is not as at first", Run.firstChange(Everything.after(fresh), Everything.after(used)), "nothing");
    }

    private static void begin(Sentences s) {
        s.part("Promise 10");
        s.test("Begins a transaction with the lowest number that is not open.", "4 * begin() = 0..3", "commit(2) = 0", "abort(1) = 0",
            "commit(3) = 0", "begin() = 1", "begin() = 2", "commit(0) = 0", "begin() = 0", "transaction(0..3, 0) = 1 1 1 0",
            "transaction(0..3, 1) = 10 7 8 NONE", "begin() = 3");
        s.test("Returns its number.", "begin() = 0", "begin() = 1", "begin() = 2", "begin() = 3", "abort(0) = 0", "begin() = 0");
        String refused = "Throws `IllegalStateException` if all four are open, or the next number is 400";
        s.test(refused, "4 * begin() = 0..3", "begin() ! state", "commit(3) = 0", "begin() = 3", "begin() ! state");
        s.test(refused, Rows.with(Rows.TO_400, "begin() ! state", "crash(399) = 1", "begin() = 0", "transaction(0, 1) = 399", "begin() ! state"));
        s.test(refused, "4 * begin() = 0..3", "say repeat 4(repeat 48(send 0 0 0;););", "run() = 197", "say repeat 4(repeat 48(send 0 0 0;););",
            "run() = 197", "12 * send(0, 0, 0, NONE) = 388..399", "begin() ! state");
    }

    private static void commit(Sentences s) {
        s.part("Promise 11");
        s.test("Commits a transaction.", "begin() = 0", "write(0, 0, 5, 0) = 1", "block(0, 0) = NONE", "commit(0) = 1", "block(0, 0) = 5",
            "transaction(0, 0) = 0", "record(2, 0..5) = 1 0 0 0 0 4", "commit(0) ! state");
        s.test("- `tx`: number of an open transaction", "4 * begin() = 0..3", "commit(3) = 0", "commit(0) = 0", "transaction(0..3, 0) = 0 1 1 0",
            "commit(0|3) ! state", "commit(1..2) = 0", "commit(1..2) ! state");
        s.test("Returns the number of records that became effective.", "2 * begin() = 0 1", "commit(0) = 0", "begin() = 0",
            "write(0, 0, 0, 0) = 4", "remove(0, 0) = 5", "write(0, 0, 0, NONE) = 6", "copy(0, 1, 0) = 7", "send(0, 0, 0, 0) = 8",
            "write(0, 0, 0, 1) = 9", "commit(0) = 4", "commit(1) = 1");
        s.test("Returns the number of records that became effective.", "begin() = 0", "say repeat 4(repeat 48(write 0 0 7 in 0;););",
            "run() = 197", "say repeat 4(repeat 48(write 0 0 7 in 0;););", "run() = 197", "14 * write(0, 0, 7, 0) = 385..398",
            "commit(0) = 398", "state(0) = 400");
        s.test("Throws `IndexOutOfBoundsException` if tx is not 0 to 3", "4 * begin() = 0..3", "commit(-1|4|LEAST|MOST) ! index", "commit(0..3) = 0",
            "commit(-1|4) ! index");
        String state = "Throws `IllegalStateException` if it is not open, or the next number is 400";
        s.test(state, "commit(0..3) ! state", "begin() = 0", "commit(1..3) ! state", "commit(0) = 0", "commit(0) ! state");
        s.test(state, Rows.with(Rows.TO_400, "commit(0) ! state", "commit(1) ! state", "commit(4|-1) ! index"));
        s.test(state, Rows.with(Rows.TO_399, "commit(0) = 0", "state(0) = 400", "commit(0) ! state"));
        s.test(state, Rows.with(Rows.TO_399, "crash(399) = 0", "commit(0) ! state"));
    }

    private static void abort(Sentences s) {
        s.part("Promise 12");
        s.test("Aborts a transaction.", "begin() = 0", "write(0, 0, 5, 0) = 1", "abort(0) = 1", "block(0, 0) = NONE", "transaction(0, 0) = 0",
            "record(2, 0..5) = 2 0 0 0 0 4", "record(1, 8) = NONE", "abort(0) ! state", "commit(0) ! state");
        s.test("- `tx`: number of an open transaction", "4 * begin() = 0..3", "abort(3) = 0", "abort(0) = 0", "transaction(0..3, 0) = 0 1 1 0",
            "abort(0|3) ! state", "abort(1..2) = 0");
        s.test("Returns the number of its records, without those of its begin and end.", "2 * begin() = 0 1", "abort(0) = 0", "begin() = 0",
            "write(0, 0, 0, 0) = 4", "remove(0, 0) = 5", "write(0, 0, 0, NONE) = 6", "copy(0, 1, 0) = 7", "send(0, 0, 0, 0) = 8",
            "write(0, 0, 0, 1) = 9", "abort(0) = 4", "abort(1) = 1");
        s.test("Throws `IndexOutOfBoundsException` if tx is not 0 to 3", "4 * begin() = 0..3", "abort(-1|4|LEAST|MOST) ! index", "abort(0..3) = 0",
            "abort(-1|4) ! index");
        String state = "Throws `IllegalStateException` if it is not open, or the next number is 400";
        s.test(state, "abort(0..3) ! state", "begin() = 0", "abort(1..3) ! state", "abort(0) = 0", "abort(0) ! state");
        s.test(state, Rows.with(Rows.TO_400, "abort(0) ! state", "abort(1) ! state", "abort(4|-1) ! index"));
        s.test(state, Rows.with(Rows.TO_399, "abort(0) = 0", "state(0) = 400", "abort(0) ! state"));
    }

    private static void write(Sentences s) {
        s.part("Promise 13");
        s.test("Appends a record that writes a block of a file.", "write(3, 2, 44, NONE) = 0", "record(0, 0..5) = 3 NONE 3 2 44 12",
            "block(3, 0..3) = 0 0 44 0", "state(1) = 0");
        s.test("- `file`: 0 to 7", "write(0..7, 0, 5, NONE) = 0..7", "block(0..7, 0) = 5", "write(-1|8, 0, 5, NONE) ! index");
        s.test("- `block`: 0 to 3", "write(0, 0..3, 5, NONE) = 0..3", "block(0, 0..3) = 5", "write(0, -1|4, 5, NONE) ! index");
        s.test("- `value`: 0 to 9999", "write(0, 0, 0, NONE) = 0", "block(0, 0) = 0", "write(0, 0, 9999, NONE) = 1", "block(0, 0) = 9999",
            "write(0, 0, -1|10000, NONE) ! argument", "block(0, 0) = 9999");
        s.test("- `tx`: number of an open transaction, or NONE", "4 * begin() = 0..3", "write(0, 0, 1, 0..3) = 4..7",
            "write(0, 0, 9, NONE) = 8", "record(4..8, 1) = 0 1 2 3 NONE", "block(0, 0) = 9", "commit(3) = 1", "block(0, 0) = 1",
            "write(0, 0, 1, 3) ! state", "write(0, 0, 1, -2|4) ! index");
        s.test("Returns the number of the record.", "write(0, 0, 1, NONE) = 0", "begin() = 0", "write(0, 0, 1, 0) = 2", "crash(0) = 3",
            "write(0, 0, 1, NONE) = 0");
        s.test("Throws `IndexOutOfBoundsException` if the file, the block or the transaction is out of range", "begin() = 0",
            "write(-1|8|LEAST|MOST, 0, 0, 0) ! index", "write(0, -1|4|LEAST|MOST, 0, NONE) ! index", "write(0, 0, 0, -2|4|LEAST|MOST) ! index",
            "write(8, 0, 10000, 1) ! index", "write(0, 4, -1, 1) ! index", "write(0, 0, 10000, 4) ! index", "write(7, 3, 9999, 4) ! index");
        s.test("Throws `IllegalArgumentException` if the value is out of range", "begin() = 0", "write(0, 0, -1|10000|LEAST|MOST, NONE) ! argument",
            "write(7, 3, -1|10000|LEAST|MOST, 0) ! argument", "write(0, 0, -1|10000, 1) ! argument", "transaction(0, 2) = 0");
        String state = "Throws `IllegalStateException` if the transaction is not open, or the next number is 400";
        s.test(state, "write(0, 0, 0, 0..3) ! state", "begin() = 0", "write(0, 0, 0, 1..3) ! state", "write(0, 0, 0, 0) = 1", "commit(0) = 1",
            "write(0, 0, 0, 0) ! state");
        s.test(state, Rows.with(Rows.TO_400, "write(0, 0, 0, NONE) ! state", "write(0, 0, 0, 0) ! state", "write(0, 0, 0, 1) ! state",
            "write(0, 0, 10000, NONE) ! argument", "write(0, 0, -1, 1) ! argument", "write(8, 0, 10000, 1) ! index", "write(0, 0, 0, 4) ! index"));
        s.test(state, Rows.with(Rows.TO_399, "write(0, 0, 0, 0) = 399", "write(0, 0, 0, 0) ! state"));
    }

    private static void remove(Sentences s) {
        s.part("Promise 14");
        s.test("Appends a record that removes a file.", "write(3, 2, 44, NONE) = 0", "remove(3, NONE) = 1", "record(1, 0..5) = 4 NONE 3 0 0 6",
            "block(3, 0..3) = NONE", "remove(3, NONE) = 2", "state(1) = 0");
        s.test("- `file`: 0 to 7", "write(0..7, 0, 5, NONE) = 0..7", "remove(0|7, NONE) = 8 9", "block(0..7, 0) = NONE 5 5 5 5 5 5 NONE",
            "remove(-1|8, NONE) ! index");
        s.test("- `tx`: number of an open transaction, or NONE", "4 * begin() = 0..3", "write(0, 0, 1, NONE) = 4", "remove(0, 0..3) = 5..8",
            "block(0, 0) = 1", "record(5..8, 1) = 0..3", "commit(3) = 1", "block(0, 0) = NONE", "remove(0, 3) ! state", "remove(0, -2|4) ! index",
            "remove(0, NONE) = 10", "record(10, 1) = NONE");
        s.test("Returns the number of the record.", "remove(0, NONE) = 0", "begin() = 0", "remove(0, 0) = 2", "crash(0) = 3", "remove(0, NONE) = 0");
        s.test("Throws `IndexOutOfBoundsException` if the file or the transaction is out of range", "begin() = 0",
            "remove(-1|8|LEAST|MOST, 0) ! index", "remove(0, -2|4|LEAST|MOST) ! index", "remove(8|-1, 1) ! index", "remove(7, 4) ! index");
        String state = "Throws `IllegalStateException` if the transaction is not open, or the next number is 400";
        s.test(state, "remove(0, 0..3) ! state", "begin() = 0", "remove(7, 1..3) ! state", "remove(7, 0) = 1", "abort(0) = 1", "remove(0, 0) ! state");
        s.test(state, Rows.with(Rows.TO_400, "remove(0, NONE) ! state", "remove(0, 0) ! state", "remove(0, 1) ! state", "remove(8, 1) ! index",
            "remove(0, 4) ! index"));
        s.test(state, Rows.with(Rows.TO_399, "remove(0, NONE) = 399", "remove(0, NONE) ! state"));
    }

    private static void copy(Sentences s) {
        s.part("Promise 15");
        s.test("Appends a record that copies a file.", "write(3, 2, 44, NONE) = 0", "copy(3, 5, NONE) = 1", "record(1, 0..5) = 5 NONE 3 5 0 8",
            "block(5, 0..3) = 0 0 44 0", "block(3, 0..3) = 0 0 44 0", "state(1) = 0");
        s.test("- `from`: 0 to 7", "write(0|7, 0, 5, NONE) = 0 1", "copy(0, 1, NONE) = 2", "copy(7, 2, NONE) = 3", "block(1..2, 0) = 5",
            "copy(-1|8, 1, NONE) ! index");
        s.test("- `to`: 0 to 7", "write(3, 0, 5, NONE) = 0", "copy(3, 0|7, NONE) = 1 2", "block(0|7, 0) = 5", "copy(3, -1|8, NONE) ! index");
        s.test("- `tx`: number of an open transaction, or NONE", "4 * begin() = 0..3", "write(0, 0, 1, NONE) = 4", "copy(0, 1, 0..3) = 5..8",
            "block(1, 0) = NONE", "record(5..8, 1) = 0..3", "commit(3) = 1", "block(1, 0) = 1", "copy(0, 1, 3) ! state", "copy(0, 1, -2|4) ! index",
            "copy(0, 2, NONE) = 10", "block(2, 0) = 1");
        s.test("Returns the number of the record.", "copy(0, 1, NONE) = 0", "begin() = 0", "copy(0, 1, 0) = 2", "crash(0) = 3", "copy(1, 0, NONE) = 0");
        s.test("Throws `IndexOutOfBoundsException` if a file or the transaction is out of range", "begin() = 0",
            "copy(-1|8|LEAST|MOST, 0, 0) ! index", "copy(0, -1|8|LEAST|MOST, NONE) ! index", "copy(0, 1, -2|4|LEAST|MOST) ! index",
            "copy(8, 8, NONE) ! index", "copy(-1, -1, 1) ! index", "copy(3, 3, 4) ! index", "copy(8, 0, 1) ! index");
        s.test("Throws `IllegalArgumentException` if both files are the same", "begin() = 0", "copy(0, 0, NONE) ! argument",
            "copy(7, 7, 0) ! argument", "copy(3, 3, 1) ! argument", "copy(0, 7, NONE) = 1", "copy(7, 0, NONE) = 2");
        String state = "Throws `IllegalStateException` if the transaction is not open, or the next number is 400";
        s.test(state, "copy(0, 1, 0..3) ! state", "begin() = 0", "copy(7, 0, 1..3) ! state", "copy(7, 0, 0) = 1", "abort(0) = 1", "copy(0, 1, 0) ! state");
        s.test(state, Rows.with(Rows.TO_400, "copy(0, 1, NONE) ! state", "copy(0, 1, 0) ! state", "copy(0, 1, 1) ! state", "copy(1, 1, 1) ! argument",
            "copy(8, 8, 1) ! index", "copy(0, 0, 4) ! index"));
        s.test(state, Rows.with(Rows.TO_399, "copy(0, 1, NONE) = 399", "copy(0, 1, NONE) ! state"));
    }

    private static void send(Sentences s) {
        s.part("Promise 16");
        s.test("Appends a record of a message.", "send(2, 44, 5, NONE) = 0", "record(0, 0..5) = 6 NONE 2 44 5 15", "visible(2, 0) = 0", "state(1) = 0");
        s.test("- `topic`: 0 to 3", "send(0..3, 0, 0, NONE) = 0..3", "visible(0..3, 0) = 0..3", "send(-1|4, 0, 0, NONE) ! index");
        s.test("- `key`: 0 to 9999", "send(0, 0|9999, 0, NONE) = 0 1", "record(0..1, 3) = 0 9999", "send(0, -1|10000, 0, NONE) ! argument");
        s.test("- `length`: length of the message, 0 to 20", "send(0, 0, 0|20, NONE) = 0 1", "record(0..1, 4) = 0 20", "record(0..1, 5) = 10 30",
            "send(0, 0, -1|21, NONE) ! argument");
        s.test("- `tx`: number of an open transaction, or NONE", "4 * begin() = 0..3", "send(1, 0, 0, 0..3) = 4..7", "visibleAt(8, 1) = 0",
            "record(4..7, 1) = 0..3", "send(1, 0, 0, NONE) = 8", "visible(1, 0) = 8", "commit(3) = 1", "visible(1, 1) = 7", "send(1, 0, 0, 3) ! state",
            "send(1, 0, 0, -2|4) ! index");
        s.test("Returns the number of the record.", "send(0, 0, 0, NONE) = 0", "begin() = 0", "send(0, 0, 0, 0) = 2", "crash(0) = 3",
            "send(0, 0, 0, NONE) = 0");
        s.test("Throws `IndexOutOfBoundsException` if the topic or the transaction is out of range", "begin() = 0",
            "send(-1|4|LEAST|MOST, 0, 0, 0) ! index", "send(0, 0, 0, -2|4|LEAST|MOST) ! index", "send(4, -1, 21, 1) ! index",
            "send(0, 10000, 0, 4) ! index", "send(0, 0, 21, -2) ! index", "send(4, 0, 0, 1) ! index");
        s.test("Throws `IllegalArgumentException` if the key or the length is out of range", "begin() = 0",
            "send(0, -1|10000|LEAST|MOST, 0, NONE) ! argument", "send(0, 0, -1|21|LEAST|MOST, 0) ! argument", "send(0, 10000, 0, 1) ! argument",
            "send(0, 0, 21, 1) ! argument", "send(3, -1, -1, NONE) ! argument", "transaction(0, 2) = 0");
        String state = "Throws `IllegalStateException` if the transaction is not open, or the next number is 400";
        s.test(state, "send(0, 0, 0, 0..3) ! state", "begin() = 0", "send(3, 0, 0, 1..3) ! state", "send(3, 0, 0, 0) = 1", "commit(0) = 1",
            "send(0, 0, 0, 0) ! state");
        s.test(state, Rows.with(Rows.TO_400, "send(0, 0, 0, NONE) ! state", "send(0, 0, 0, 0) ! state", "send(0, 0, 0, 1) ! state",
            "send(0, 0, 21, 1) ! argument", "send(0, 10000, 0, NONE) ! argument", "send(4, 10000, 21, 1) ! index", "send(0, 0, 0, 4) ! index"));
        s.test(state, Rows.with(Rows.TO_399, "send(0, 0, 0, NONE) = 399", "send(0, 0, 0, NONE) ! state"));
    }

    private static void join(Sentences s) {
        s.part("Promise 17");
        s.test("Adds a consumer of a topic. Its position is the number of visible messages of the topic. An offset record is appended, and "
            + "the log is flushed.", "join(2) = 0", "consumer(0, 0..5) = 2 0 0 0 1 0", "send(2, 0, 0, NONE) = 1", "begin() = 0",
            "send(2, 0, 0, 0) = 3", "send(1, 0, 0, NONE) = 4", "damage(4) = 1", "state(1) = 1", "join(2) = 1", "consumer(1, 0..5) = 2 1 0 0 6 0",
            "record(5, 0..5) = 7 NONE 1 1 2 8", "record(5, 8) = 5", "state(1) = 6", "state(10) = 6", "record(4, 9) = 0", "commit(0) = 1",
            "consumer(0..1, 2) = 2 1");
        s.test("- `topic`: 0 to 3", "join(0..3) = 0..3", "consumer(0..3, 0) = 0..3", "join(-1|4) ! index");
        s.test("Returns the number of the consumer.", "join(3) = 0", "join(0) = 1", "join(3) = 2", "join(3) = 3", "join(3) = 4", "join(3) = 5");
        s.test("Throws `IndexOutOfBoundsException` if the topic is out of range", "join(-1|4|LEAST|MOST) ! index", "6 * join(0) = 0..5",
            "join(-1|4|LEAST|MOST) ! index");
        String state = "Throws `IllegalStateException` if there are six consumers, or the next number is 400";
        s.test(state, "5 * join(0) = 0..4", "join(3) = 5", "join(0..3) ! state", "join(4) ! index", "state(8) = 6", "crash(6) = 0",
            "join(0) ! state");
        s.test(state, Rows.with(Rows.TO_400, "join(0..3) ! state", "join(4) ! index", "state(8) = 1"));
        s.test(state, Rows.with(Rows.TO_399, "join(0) = 1", "state(0..1) = 400", "join(0) ! state"));
    }

    private static void read(Sentences s) {
        s.part("Promise 18");
        String sentence = "Lets a consumer read its next messages, as many as there are but at most n. If it reads at least one, its position "
            + "increases by their number, an offset record is appended, and the log is flushed.";
        s.test(sentence, "join(1) = 0", "read(0, 1) = 0", "state(0) = 1", "3 * send(1, 5, 6, NONE) = 1..3", "damage(3) = 1", "read(0, 2) = 2",
            "consumer(0, 1..2) = 2 1", "record(4, 0..5) = 7 NONE 0 2 1 8", "record(4, 8) = 4", "state(0..1) = 5", "record(3, 9) = 0", "read(0, 2) = 1",
            "record(5, 2..4) = 0 3 1", "consumer(0, 1..2) = 3 0", "send(1, 5, 6, NONE) = 6", "read(0, 1) = 1", "record(7, 2..4) = 0 4 1");
        // a read of nothing appends and flushes nothing
        s.test(sentence, "join(1) = 0", "write(0, 0, 0, NONE) = 1", "damage(1) = 1", "read(0, 50) = 0", "state(0..1) = 2 1", "record(1, 9) = 1",
            "consumer(0, 1) = 0");
        s.test("- `consumer`: number of a consumer", "6 * join(0) = 0..5", "send(0, 0, 0, NONE) = 6", "read(0|5, 1) = 1", "consumer(0..5, 1) = 1 0 0 0 0 1",
            "read(-1|6, 1) ! index");
        String[] more = {"configure(400, 9999, 0) = 0", "join(0) = 0", "say repeat 50(send 0 1 2;);", "run() = 51",
            "send(0, 3, 4, NONE) = 51"};
        s.test("- `n`: 1 to 50", Rows.with(more, "read(0, 1) = 1", "read(0, 50) = 50", "read(0, 50) = 0", "read(0, 0|51) ! argument"));
        s.test("Returns the number of messages that were read.", Rows.with(more, "read(0, 50) = 50", "consumer(0, 1..2) = 50 1", "read(0, 50) = 1",
            "consumer(0, 1..2) = 51 0", "read(0, 1) = 0"));
        s.test("Throws `IndexOutOfBoundsException` if there is no such consumer", "read(0, 1) ! index", "2 * join(0) = 0 1", "read(-1|2|6|LEAST|MOST, 1) ! index",
            "read(2, 0) ! index", "read(-1, 51) ! index", "read(1, 1) = 0");
        s.test("Throws `IllegalArgumentException` if n is out of range", Rows.with(more, "read(0, 0|51|-1|LEAST|MOST) ! argument",
            "consumer(0, 2) = 51"));
        String full = "Throws `IllegalStateException` if the next number is 400 (also if there is nothing to read)";
        s.test(full, Rows.with(Rows.TO_400, "consumer(0, 2) = 1", "read(0, 1) ! state", "read(0, 50) ! state", "read(0, 0|51) ! argument",
            "read(1|-1, 1) ! index", "read(1, 0) ! index"));
        s.test(full, Rows.with(Rows.TO_399, "write(0, 0, 0, NONE) = 399", "consumer(0, 2) = 0", "read(0, 1) ! state", "read(0, 51) ! argument"));
        s.test(full, Rows.with(Rows.TO_399, "read(0, 1) = 0", "state(0) = 399", "crash(398) = 1", "send(1, 8, 9, NONE) = 398", "read(0, 1) = 1",
            "state(0..1) = 400", "read(0, 1) ! state", "message(0, 0..2) = 398 8 9"));
    }

    private static void message(Sentences s) {
        s.part("Promise 19");
        String latest = "Returns a number about a message of the latest successful call of read, by a script, too.";
        String[] three = {"join(1) = 0", "send(1, 5, 6, NONE) = 1", "send(1, 7, 8, NONE) = 2", "send(1, 9, 10, NONE) = 3"};
        s.test(latest, Rows.with(three, "read(0, 2) = 2", "message(0..1, 0) = 1 2", "read(0, 51) ! argument", "read(1, 1) ! index",
            "message(0..1, 1) = 5 7", "read(0, 1) = 1", "message(0, 0..2) = 3 9 10", "message(1, 0) ! index", "crash(6) = 0",
            "message(0, 0..2) = 3 9 10", "read(0, 1) = 0", "message(0, 0) ! index"));
        s.test(latest, Rows.with(three, "say read 0 2;read 0 0;", "run() = 2", "failure() = 2", "message(0..1, 1) = 5 7", "say read 0 1;read 0 1;",
            "run() = 2", "message(0, 0) ! index"));
        s.test("- `index`: index among the messages that it read, from 0", "configure(400, 9999, 0) = 0", "join(0) = 0",
            "say repeat 50(send 0 1 2;);", "run() = 51", "send(0, 3, 4, NONE) = 51", "read(0, 50) = 50", "message(0|49, 0) = 1 50",
            "message(-1|50, 0) ! index", "read(0, 50) = 1", "message(0, 0) = 51", "message(1|49, 0) ! index");
        s.test("- `what`: 0 number of its record, 1 key, 2 length", Rows.with(three, "read(0, 50) = 3", "message(0, 0..2) = 1 5 6",
            "message(2, 0..2) = 3 9 10"));
        s.test("Returns the value.", "join(0) = 0", "send(0, 0, 0, NONE) = 1", "send(0, 9999, 20, NONE) = 2", "read(0, 2) = 2", "message(0, 0..2) = 1 0 0",
            "message(1, 0..2) = 2 9999 20");
        String index = "Throws `IndexOutOfBoundsException` if there is no such message, or no such call since the settings were made";
        s.test(index, Rows.with(three, "message(0, 0) ! index", "message(0, 3) ! index", "read(0, 2) = 2", "message(-1|2|LEAST|MOST, 0) ! index",
            "message(2, 3) ! index", "message(-1, -1) ! index", "configure(100, 300, 20) = 5", "message(0, 0) ! index", "message(0, 3) ! index"));
        s.test("Throws `IllegalArgumentException` if what is not 0 to 2", Rows.with(three, "read(0, 3) = 3", "message(0|2, -1|3|LEAST|MOST) ! argument",
            "message(2, 2) = 10"));
    }

    private static void flushAndCheckpoint(Sentences s) {
        s.part("Promise 20");
        s.test("Flushes the log: all records are durable then, and those that were damaged are sound again.", "flush() = 0",
            "3 * write(0, 0, 0, NONE) = 0..2", "damage(0) = 1", "damage(2) = 2", "flush() = 3", "state(1|10) = 3", "record(0..2, 9) = 0",
            "damage(2) ! state", "state(0) = 3");
        String count = "Returns the number of records that became durable.";
        s.test(count, "flush() = 0", "write(0, 0, 0, NONE) = 0", "flush() = 1", "flush() = 0", "2 * write(0, 0, 0, NONE) = 1 2", "crash(2) = 1",
            "flush() = 1", "join(0) = 0", "flush() = 0");
        s.test(count, Rows.with(Rows.TO_400, "flush() = 399", "flush() = 0", "state(1) = 400"));
        s.part("Promise 21");
        s.test("Makes a checkpoint: a checkpoint record is appended, the contents of all files and the positions of all consumers are kept, "
            + "and the log is flushed.", "configure(400, 9999, 0) = 0", "2 * join(0) = 0 1", "write(0, 0, 4, NONE) = 2", "write(7, 3, 5, NONE) = 3",
            "send(0, 0, 0, NONE) = 4", "read(1, 1) = 1", "write(1, 1, 6, NONE) = 6", "damage(6) = 1", "checkpoint() = 7",
            "record(7, 0..5) = 8 NONE 0 0 0 6", "record(7, 8) = NONE", "state(0..1) = 8", "state(10) = 8", "record(6, 9) = 0", "blockAt(7, 0, 0) = 4",
            "blockAt(7, 7, 3) = 5", "blockAt(7, 1, 1) = 6", "blockAt(7, 2, 0) = NONE", "positionAt(7, 0..1) = 0 1", "read(0, 1) = 1",
            "remove(7, NONE) = 9", "write(0, 0, 8, NONE) = 10", "blockAt(8, 0|7, 0) = 4 0", "positionAt(8..9, 0) = 0 1");
        s.test("Makes a checkpoint: a checkpoint record is appended, the contents of all files and the positions of all consumers are kept, "
            + "and the log is flushed.", "checkpoint() = 0", "state(0..1) = 1", "state(6) = 0", "checkpoint() = 1", "state(6) = 1");
        s.test("Returns the number of the record.", "checkpoint() = 0", "checkpoint() = 1", "begin() = 0", "checkpoint() = 3");
        String full = "Throws `IllegalStateException` if the next number is 400";
        s.test(full, Rows.with(Rows.TO_400, "checkpoint() ! state", "state(6) = 0", "state(1) = 1"));
        s.test(full, Rows.with(Rows.TO_399, "checkpoint() = 399", "checkpoint() ! state", "state(6) = 399"));
    }

    private static void damage(Sentences s) {
        s.part("Promise 22");
        s.test("Damages a record that is not durable. If it is damaged already, it stays so.", "2 * write(0, 0, 0, NONE) = 0 1", "damage(1) = 1",
            "record(0..1, 9) = 0 1", "damage(1) = 1", "record(0..1, 9) = 0 1", "state(10) = 1", "block(0, 0) = 0", "damage(0) = 2", "state(10) = 0");
        s.test("- `number`: number of the record", "flush() = 0", "3 * write(0, 0, 0, NONE) = 0..2", "damage(0) = 1", "damage(2) = 2",
            "record(0..2, 9) = 1 0 1");
        s.test("Returns how many records of the log are damaged then.", "3 * write(0, 0, 0, NONE) = 0..2", "damage(2) = 1", "damage(0) = 2", "damage(0) = 2",
            "damage(1) = 3", "crash(3) = 3", "write(0, 0, 0, NONE) = 0", "damage(0) = 1", "flush() = 1", "write(0, 0, 0, NONE) = 1", "damage(1) = 1");
        String none = "Throws `IndexOutOfBoundsException` if there is no such record in the log";
        s.test(none, "damage(0|-1|LEAST|MOST) ! index", "write(0, 0, 0, NONE) = 0", "damage(-1|1|LEAST|MOST) ! index", "damage(0) = 1");
        // a trimmed record is durable, too, and it is not in the log: the exception that is listed first is thrown
        s.test(none, "configure(40, 9999, 0) = 0", "4 * send(0, 0, 20, NONE) = 0..3", "flush() = 4", "2 * send(0, 0, 0, NONE) = 4 5", "state(2) = 3",
            "damage(0..2) ! index", "damage(-1|6) ! index", "damage(3) ! state", "damage(4) = 1");
        s.test("Throws `IllegalStateException` if it is durable", "2 * write(0, 0, 0, NONE) = 0 1", "flush() = 2", "damage(0|1) ! state", "damage(2) ! index",
            "write(0, 0, 0, NONE) = 2", "damage(1) ! state", "damage(2) = 1");
    }

    private static void crash(Sentences s) {
        s.part("Promise 23");
        s.test("Crashes (section 6).", "begin() = 0", "write(0, 0, 1, 0) = 1", "send(0, 0, 0, NONE) = 2", "commit(0) = 1", "crash(3) = 1", "state(0) = 3",
            "block(0, 0) = NONE", "visibleAt(3, 0) = 1");
        String range = "Throws `IllegalArgumentException` if the prefix is out of range";
        s.test("- `prefix`: a number from the durable end to the next number", "2 * write(0, 0, 1, NONE) = 0 1", "flush() = 2",
            "2 * write(0, 0, 2, NONE) = 2 3", "crash(4) = 0", "crash(2) = 2", "crash(2) = 0", "state(0..1) = 2");
        s.test("- `prefix`: a number from the durable end to the next number", "crash(0) = 0", "write(0, 0, 1, NONE) = 0", "crash(1) = 0", "crash(0) = 1");
        s.test("Returns the number of records that are lost.", "5 * write(0, 0, 1, NONE) = 0..4", "crash(5) = 0", "crash(4) = 1", "damage(1) = 1",
            "crash(4) = 3", "state(0) = 1", "crash(0) = 1", "crash(0) = 0");
        s.test("Returns the number of records that are lost.", Rows.with(Rows.TO_400, "crash(400) = 0", "crash(1) = 399"));
        s.test(range, "crash(-1|1|LEAST|MOST) ! argument", "2 * write(0, 0, 1, NONE) = 0 1", "flush() = 2", "2 * write(0, 0, 2, NONE) = 2 3",
            "damage(2) = 1", "begin() = 0", "crash(-1|0|1|6|LEAST|MOST) ! argument", "transaction(0, 0) = 1", "crash(5) = 3");
    }

    public static void main(String[] args) throws IOException {
        Sentences s = new Sentences(check);
        newObject(s);
        configure(s);
        begin(s);
        commit(s);
        abort(s);
        write(s);
        remove(s);
        copy(s);
        send(s);
        join(s);
        read(s);
        message(s);
        flushAndCheckpoint(s);
        damage(s);
        crash(s);
        s.end();
    }
}
