import java.io.IOException;

/** The promises 24 to 40, which only tell: the edges that their sentences name. */
public final class QueryEdgeTest {
    private static final Check check = new Check();

    /** A log of two consumers, one of which has a spilled message, with an open transaction and a damaged record. */
    private static final String[] BUSY = {
        "configure(40, 60, 1) = 0", "join(0) = 0", "join(1) = 1", "checkpoint() = 2", "begin() = 0", "write(5, 1, 77, 0) = 4",
        "send(0, 6, 20, NONE) = 5", "send(1, 7, 8, NONE) = 6", "damage(6) = 1"};

    /** A log whose first segments have been trimmed. */
    private static final String[] TRIMMED = {
        "configure(40, 9999, 0) = 0", "4 * send(2, 3, 20, NONE) = 0..3", "write(1, 0, 5, NONE) = 4", "checkpoint() = 5", "state(2) = 4"};

    private static void state(Sentences s) {
        s.part("Promise 24");
        s.quote("---- the log");
        s.test("Returns a number about the log.", Rows.with(BUSY, "state(0..10) = 7 3 0 86 3 0 2 1 2 1 6"));
        String what = "- `what`: 0 next number, 1 durable end, 2 first number in the log (the next number if it has no records), 3 bytes of the "
            + "records in the log, 4 hold, 5 segments that were trimmed so far, 6 checkpoint position, 7 open transactions, 8 consumers, 9 "
            + "spilled messages of all consumers, 10 number of the first damaged record (the next number if there is none)";
        s.test(what, "state(0..10) = 0", "2 * begin() = 0 1", "state(0..10) = 2 0 0 8 0 0 0 2 0 0 2", "2 * begin() = 2 3", "state(7) = 4");
        s.test(what, Rows.with(TRIMMED, "state(0..10) = 6 6 4 18 6 4 5 0 0 0 6", "write(0, 0, 0, NONE) = 6", "write(0, 0, 0, NONE) = 7",
            "state(0..10) = 8 6 4 42 6 4 5 0 0 0 8", "damage(7) = 1", "state(10) = 7", "damage(6) = 2", "state(10) = 6", "crash(6) = 2",
            "state(0..10) = 6 6 4 18 6 4 5 0 0 0 6", "6 * join(0) = 0..5", "state(8) = 6"));
        // a log that has no records, though it had some
        s.test(what, "configure(40, 9999, 0) = 0", "4 * send(0, 0, 0, NONE) = 0..3", "flush() = 4", "send(0, 0, 0, NONE) = 4", "damage(4) = 1",
            "crash(5) = 1", "state(0..10) = 4 4 4 0 4 1 0 0 0 0 4");
        s.test(what, Rows.with(Rows.TO_400, "state(0..2) = 400 1 0", "state(3) = 4795", "state(10) = 400", "flush() = 399", "state(1) = 400"));
        s.test("Returns the value.", "write(0, 0, 0, NONE) = 0", "state(0..10) = 1 0 0 12 0 0 0 0 0 0 1");
        s.test("Throws `IllegalArgumentException` if what is not 0 to 10", Rows.with(BUSY, "state(-1|11|LEAST|MOST) ! argument"));
    }

    private static void record(Sentences s) {
        s.part("Promise 25");
        s.test("Returns a number about a record.", Rows.with(BUSY, "record(4, 0..5) = 3 3 5 1 77 12", "record(4, 7..9) = 0 NONE 0",
            "record(6, 0..5) = 6 NONE 1 7 8 18", "record(6, 7..9) = 2 6 1"));
        s.test("- `number`: number of a record in the log", Rows.with(BUSY, "record(0..6, 0) = 7 7 8 0 3 6 6", "record(-1|7, 0) ! index"));
        s.test("- `number`: number of a record in the log", Rows.with(TRIMMED, "record(4..5, 0) = 3 8", "record(3|6, 0) ! index"));
        s.test("- `number`: number of a record in the log", Rows.with(Rows.TO_400, "record(399, 0) = 6", "record(400, 0) ! index"));
        s.test("- `what`: 0 type, 1 number of its begin record (NONE without a transaction), 2 to 4 its three numbers, 5 size, 6 checksum, "
            + "7 number of its segment, 8 its effect (NONE if it is not effective), 9 whether it is damaged (1 or 0)", Rows.with(TRIMMED,
            "begin() = 0", "record(6, 0..5) = 0 6 0 0 0 4", "record(6, 7..9) = 4 NONE 0", "send(0, 0, 20, 0) = 7", "record(7, 7) = 5",
            "record(4, 1|8) = NONE 4", "record(7, 1|8) = 6 NONE", "damage(7) = 1", "record(6..7, 9) = 0 1", "commit(0) = 1", "record(7, 8) = 8",
            "flush() = 3", "record(7, 9) = 0"));
        s.test("Returns the value.", "begin() = 0", "record(0, 0..9) = 0 0 0 0 0 4 14877 0 NONE 0");
        s.test("Throws `IndexOutOfBoundsException` if there is no such record in the log", "record(0|-1|LEAST|MOST, 0) ! index", "begin() = 0",
            "record(-1|1|LEAST|MOST, 0) ! index", "record(1, 10) ! index", "record(-1, -1) ! index", "record(0, 0) = 0", "crash(0) = 1",
            "record(0, 0) ! index");
        s.test("Throws `IndexOutOfBoundsException` if there is no such record in the log", Rows.with(TRIMMED, "record(0|3, 0) ! index",
            "record(0|3|6, 10) ! index"));
        s.test("Throws `IllegalArgumentException` if what is not 0 to 9", Rows.with(TRIMMED, "record(4|5, -1|10|LEAST|MOST) ! argument"));
    }

    private static void segments(Sentences s) {
        s.part("Promise 26");
        s.test("Returns the number of segments in the log.", "configure(40, 9999, 0) = 0", "segments() = 1", "send(0, 0, 20, NONE) = 0", "segments() = 1",
            "send(0, 0, 0, NONE) = 1", "segments() = 1", "begin() = 0", "segments() = 2", "2 * send(0, 0, 20, NONE) = 3 4", "segments() = 3",
            "flush() = 5", "segments() = 2");
        s.test("Returns 1 or more.", Rows.with(TRIMMED, "segments() = 1", "write(0, 0, 0, NONE) = 6", "flush() = 1", "segments() = 1", "crash(7) = 0",
            "segments() = 1"));
        s.test("Returns 1 or more.", "configure(40, 9999, 0) = 0", "400 * send(0, 0, 20, NONE) = 0..399", "segments() = 400",
            "segment(399, 0..4) = 399 399 1 30 0", "segment(398, 0..4) = 398 398 1 30 1", "record(399, 7) = 399", "segment(400, 0) ! index",
            "flush() = 400", "segments() = 1", "segment(0, 0..4) = 399 399 1 30 0");
        s.part("Promise 27");
        s.test("Returns a number about a segment.", Rows.with(BUSY, "segments() = 3", "segment(0, 0..4) = 0 0 5 38 1", "segment(1, 0..4) = 1 5 1 30 1",
            "segment(2, 0..4) = 2 6 1 18 0"));
        s.test("- `index`: index among the segments in the log, from 0", Rows.with(TRIMMED, "segment(0, 0) = 4", "write(0, 0, 0, NONE) = 6",
            "begin() = 0", "send(0, 0, 20, NONE) = 8", "segment(0..1, 0) = 4 5", "segment(-1|2, 0) ! index"));
        s.test("- `what`: 0 its number, 1 the number of its first record (also of a record that does not exist yet), 2 its records, 3 their "
            + "bytes, 4 whether it is sealed (1 or 0)", "segment(0, 0..4) = 0", "send(0, 0, 0, NONE) = 0", "segment(0, 0..4) = 0 0 1 10 0", "flush() = 1",
            "crash(1) = 0", "5 * send(0, 0, 20, NONE) = 1..5", "segment(0, 0..4) = 0 0 4 100 1", "segment(1, 0..4) = 1 4 2 60 0");
        s.test("- `what`: 0 its number, 1 the number of its first record (also of a record that does not exist yet), 2 its records, 3 their "
            + "bytes, 4 whether it is sealed (1 or 0)", "configure(40, 9999, 0) = 0", "4 * send(0, 0, 0, NONE) = 0..3", "flush() = 4",
            "send(0, 0, 0, NONE) = 4", "segment(0, 0..4) = 1 4 1 10 0", "crash(4) = 1", "segment(0, 0..4) = 1 4 0 0 0", "record(4, 0) ! index");
        s.test("Returns the value.", "write(0, 0, 0, NONE) = 0", "segment(0, 0..4) = 0 0 1 12 0");
        s.test("Throws `IndexOutOfBoundsException` if there is no such segment", Rows.with(BUSY, "segment(-1|3|LEAST|MOST, 0) ! index",
            "segment(3, 5) ! index", "segment(-1, -1) ! index", "crash(3) = 4", "segment(1, 0) ! index"));
        s.test("Throws `IllegalArgumentException` if what is not 0 to 4", Rows.with(BUSY, "segment(0|2, -1|5|LEAST|MOST) ! argument"));
        s.part("Promise 28");
        s.test("Returns how full a segment is.", "fill(0) = 0/100", "write(0, 0, 0, NONE) = 0", "fill(0) = 12/100");
        s.test("- `index`: index among the segments in the log, from 0", Rows.with(BUSY, "fill(0..2) = 38/40 30/40 18/40", "fill(-1|3) ! index"));
        s.test("Returns its bytes divided by the capacity, both converted to float.", "configure(41, 9999, 0) = 0", "fill(0) = 0/41",
            "send(0, 0, 20, NONE) = 0", "fill(0) = 30/41", "send(0, 0, 1, NONE) = 1", "fill(0) = 41/41", "begin() = 0", "fill(1) = 4/41");
        s.test("Throws `IndexOutOfBoundsException` if there is no such segment", "fill(-1|1|LEAST|MOST) ! index", "fill(0) = 0/1");
    }

    private static void order(Sentences s) {
        s.part("Promise 29");
        String[] mixed = {"begin() = 0", "write(0, 0, 1, 0) = 1", "send(0, 0, 0, NONE) = 2", "commit(0) = 1", "begin() = 0", "abort(0) = 0"};
        s.test("Returns a record by its place in the order of effects (section 3).", Rows.with(mixed, "order(6, 0..1) = 2 1", "remove(0, NONE) = 6",
            "order(7, 0..2) = 2 1 6"));
        s.test("- `prefix`: a prefix for which views can be recovered", Rows.with(mixed, "order(3..6, 0) = 2", "order(4, 1) = 1", "order(0|2, 0) ! element",
            "order(-1|7, 0) ! argument"));
        s.test("- `prefix`: a prefix for which views can be recovered", Rows.with(TRIMMED, "order(5|6, 0) = 4", "order(4|7, 0) ! argument"));
        String place = "- `place`: place among the effective records of this prefix that are in the log, from 0";
        s.test(place, Rows.with(mixed, "order(6, 0) = 2", "order(6, 1) = 1", "order(6, 2|-1) ! element", "order(3, 1) ! element"));
        // four messages have been trimmed, and have no place; what is before the checkpoint, but in the log, has one
        s.test(place, Rows.with(TRIMMED, "order(6, 0) = 4", "order(6, 1) ! element", "send(0, 0, 0, NONE) = 6", "order(7, 0..1) = 4 6"));
        s.test("Returns the number of the record.", "send(0, 0, 0, NONE) = 0", "order(1, 0) = 0");
        s.test("Throws `IllegalArgumentException` if views of the prefix cannot be recovered", Rows.with(TRIMMED, "order(-1|0|4|7|LEAST|MOST, 0) ! argument",
            "order(4|7, -1) ! argument", "order(4|7, 1) ! argument"));
        s.test("Throws `NoSuchElementException` if there is no such place", Rows.with(TRIMMED, "order(6, -1|1|LEAST|MOST) ! element"));
        s.test("Throws `NoSuchElementException` if there is no such place", "order(0, 0|-1) ! element", "begin() = 0", "order(1, 0) ! element");
    }

    private static void transaction(Sentences s) {
        s.part("Promise 30");
        s.test("Returns a number about a transaction.", Rows.with(BUSY, "transaction(0, 0..2) = 1 3 1", "transaction(1, 0..2) = 0 NONE NONE"));
        s.test("- `tx`: 0 to 3", "4 * begin() = 0..3", "transaction(0..3, 1) = 0..3", "transaction(-1|4, 1) ! index");
        s.test("- `what`: 0 whether it is open (1 or 0), 1 the number of its begin record, 2 the number of its records without that one (1 and "
            + "2: NONE if it is not open)", "transaction(0, 0..2) = 0 NONE NONE", "2 * begin() = 0 1", "transaction(1, 0..2) = 1 1 0",
            "write(0, 0, 0, 1) = 2", "remove(0, 1) = 3", "send(0, 0, 0, 0) = 4", "copy(0, 1, 1) = 5", "send(0, 0, 0, 1) = 6", "write(0, 0, 0, NONE) = 7",
            "transaction(0..1, 2) = 1 4", "commit(1) = 4", "transaction(1, 0..2) = 0 NONE NONE", "begin() = 1", "transaction(1, 0..2) = 1 9 0",
            "crash(10) = 0", "transaction(0..1, 0..2) = 0 NONE NONE 0 NONE NONE");
        s.test("Returns the value.", "begin() = 0", "transaction(0, 0..2) = 1 0 0");
        s.test("Throws `IndexOutOfBoundsException` if tx is out of range", Rows.with(BUSY, "transaction(-1|4|LEAST|MOST, 0) ! index",
            "transaction(4, 3) ! index", "transaction(-1, -1) ! index"));
        s.test("Throws `IllegalArgumentException` if what is not 0 to 2", Rows.with(BUSY, "transaction(0|3, -1|3|LEAST|MOST) ! argument"));
    }

    private static void blocks(Sentences s) {
        s.part("Promise 31");
        s.quote("---- views");
        s.test("Returns a block of a file as it is now.", "write(0, 0, 1, NONE) = 0", "block(0, 0) = 1", "begin() = 0", "write(0, 0, 2, 0) = 2",
            "block(0, 0) = 1", "commit(0) = 1", "block(0, 0) = 2", "crash(3) = 1", "block(0, 0) = 1", "crash(0) = 3", "block(0, 0) = NONE");
        s.test("- `file`: 0 to 7", "write(0|7, 1, 5, NONE) = 0 1", "block(0..7, 1) = 5 NONE NONE NONE NONE NONE NONE 5", "block(-1|8, 1) ! index");
        s.test("- `block`: 0 to 3", "write(2, 0|3, 5, NONE) = 0 1", "block(2, 0..3) = 5 0 0 5", "block(2, -1|4) ! index");
        s.test("Returns the value, NONE if the file does not exist.", "block(0..7, 0..3) = NONE", "write(0, 0, 0, NONE) = 0", "block(0, 0..3) = 0",
            "remove(0, NONE) = 1", "block(0, 0..3) = NONE");
        s.test("Throws `IndexOutOfBoundsException` if the file or the block is out of range", Rows.with(BUSY, "block(-1|8|LEAST|MOST, 0) ! index",
            "block(0, -1|4|LEAST|MOST) ! index", "block(8, 4) ! index"));
        s.part("Promise 32");
        s.test("Returns a block of a file in the view of a prefix.", "write(0, 0, 1, NONE) = 0", "write(0, 0, 2, NONE) = 1", "blockAt(0..2, 0, 0) = NONE 1 2",
            "block(0, 0) = 2");
        s.test("- `prefix`: a prefix for which views can be recovered", Rows.with(TRIMMED, "blockAt(5..6, 1, 0) = 5", "blockAt(4|7, 1, 0) ! argument"));
        s.test("- `file`: 0 to 7", "write(0|7, 1, 5, NONE) = 0 1", "blockAt(2, 0..7, 1) = 5 NONE NONE NONE NONE NONE NONE 5", "blockAt(2, -1|8, 1) ! index");
        s.test("- `block`: 0 to 3", "write(2, 0|3, 5, NONE) = 0 1", "blockAt(2, 2, 0..3) = 5 0 0 5", "blockAt(2, 2, -1|4) ! index");
        s.test("Returns the value, NONE if the file does not exist in this view.", "write(3, 2, 0, NONE) = 0", "remove(3, NONE) = 1",
            "blockAt(0..2, 3, 2) = NONE 0 NONE");
        s.test("Throws `IndexOutOfBoundsException` if the file or the block is out of range", Rows.with(TRIMMED, "blockAt(6, -1|8|LEAST|MOST, 0) ! index",
            "blockAt(6, 0, -1|4|LEAST|MOST) ! index", "blockAt(4, 8, 0) ! index", "blockAt(7, 0, 4) ! index", "blockAt(-1, -1, -1) ! index"));
        s.test("Throws `IllegalArgumentException` if views of the prefix cannot be recovered", Rows.with(TRIMMED,
            "blockAt(-1|4|7|LEAST|MOST, 7, 3) ! argument"));
        s.test("Throws `IllegalArgumentException` if views of the prefix cannot be recovered", "blockAt(-1|1, 0, 0) ! argument", "blockAt(0, 0, 0) = NONE");
    }

    private static void brokerViews(Sentences s) {
        s.part("Promise 33");
        s.test("Returns the number of visible messages of a topic in the view of a prefix, those included whose records are not in the log any "
            + "more.", Rows.with(TRIMMED, "record(3, 0) ! index", "visibleAt(5..6, 2) = 4", "send(2, 0, 0, NONE) = 6", "visibleAt(5..7, 2) = 4 4 5"));
        s.test("- `prefix`: a prefix for which views can be recovered", "send(0, 0, 0, NONE) = 0", "visibleAt(0..1, 0) = 0 1", "visibleAt(-1|2, 0) ! argument",
            "checkpoint() = 1", "visibleAt(1..2, 0) = 1", "visibleAt(0|3, 0) ! argument");
        s.test("- `topic`: 0 to 3", "send(0, 0, 0, NONE) = 0", "2 * send(3, 0, 0, NONE) = 1 2", "visibleAt(3, 0..3) = 1 0 0 2", "visibleAt(3, -1|4) ! index");
        s.test("Returns 0 or more.", "visibleAt(0, 0..3) = 0", "400 * send(3, 0, 0, NONE) = 0..399", "visibleAt(400, 3) = 400");
        s.test("Throws `IndexOutOfBoundsException` if the topic is out of range", Rows.with(TRIMMED, "visibleAt(6, -1|4|LEAST|MOST) ! index",
            "visibleAt(4|7, 4) ! index", "visibleAt(-1, -1) ! index"));
        s.test("Throws `IllegalArgumentException` if views of the prefix cannot be recovered", Rows.with(TRIMMED, "visibleAt(-1|4|7|LEAST|MOST, 2) ! argument"));
        s.part("Promise 34");
        s.test("Returns the position of a consumer in the view of a prefix.", "join(0) = 0", "send(0, 0, 0, NONE) = 1", "read(0, 1) = 1",
            "positionAt(1..3, 0) = 0 0 1");
        s.test("- `prefix`: a prefix for which views can be recovered", "join(0) = 0", "positionAt(0..1, 0) = NONE 0", "positionAt(-1|2, 0) ! argument",
            "checkpoint() = 1", "positionAt(1..2, 0) = 0", "positionAt(0|3, 0) ! argument");
        s.test("- `consumer`: number of a consumer", "6 * join(0) = 0..5", "positionAt(6, 0|5) = 0", "positionAt(6, -1|6) ! index");
        s.test("Returns the position, NONE if the consumer had not joined by then.", "send(0, 0, 0, NONE) = 0", "join(0) = 0", "positionAt(0..2, 0) = NONE NONE 1",
            "checkpoint() = 2", "join(0) = 1", "positionAt(2..4, 1) = NONE NONE 1", "positionAt(2..4, 0) = 1", "checkpoint() = 4", "positionAt(4..5, 1) = 1");
        s.test("Throws `IndexOutOfBoundsException` if there is no such consumer", "positionAt(0, 0) ! index", "2 * join(0) = 0 1",
            "positionAt(2, -1|2|LEAST|MOST) ! index", "positionAt(-1|3, 2) ! index");
        s.test("Throws `IllegalArgumentException` if views of the prefix cannot be recovered", "join(0) = 0", "checkpoint() = 1",
            "positionAt(-1|0|3|LEAST|MOST, 0) ! argument");
        s.part("Promise 35");
        s.test("Returns a visible message of a topic.", "begin() = 0", "send(1, 0, 0, 0) = 1", "send(1, 0, 0, NONE) = 2", "commit(0) = 1", "visible(1, 0..1) = 2 1");
        s.test("- `topic`: 0 to 3", "send(0..3, 0, 0, NONE) = 0..3", "visible(0..3, 0) = 0..3", "visible(-1|4, 0) ! index");
        s.test("- `index`: number of the message in its topic, from 0", "send(2, 0, 0, NONE) = 0", "send(1, 0, 0, NONE) = 1", "send(2, 0, 0, NONE) = 2",
            "visible(2, 0..1) = 0 2", "visible(2, -1|2) ! element", "visible(1, 0) = 1", "visible(1, 1) ! element");
        s.test("Returns the number of its record.", "send(0, 0, 0, NONE) = 0", "visible(0, 0) = 0");
        s.test("Throws `IndexOutOfBoundsException` if the topic is out of range", "send(0, 0, 0, NONE) = 0", "visible(-1|4|LEAST|MOST, 0) ! index",
            "visible(4, 1) ! index", "visible(-1, -1) ! index");
        String none = "Throws `NoSuchElementException` if there is no such visible message, or its record is not in the log";
        s.test(none, "visible(0..3, 0) ! element", "send(0, 0, 0, NONE) = 0", "visible(0, -1|1|LEAST|MOST) ! element", "visible(1, 0) ! element", "crash(0) = 1",
            "visible(0, 0) ! element");
        s.test(none, Rows.with(TRIMMED, "visible(2, 0..4) ! element", "send(2, 0, 0, NONE) = 6", "visible(2, 3) ! element", "visible(2, 4) = 6"));
        // the last trimmed message and the first one in the log
        s.test(none, "configure(40, 9999, 0) = 0", "3 * send(2, 3, 20, NONE) = 0..2", "flush() = 3", "visible(2, 2) = 2", "visible(2, 1) ! element");
    }

    private static void consumer(Sentences s) {
        s.part("Promise 36");
        s.quote("---- consumers");
        s.test("Returns a number about a consumer.", Rows.with(BUSY, "consumer(0, 0..5) = 0 0 1 1 7 20", "consumer(1, 0..5) = 1 0 1 0 6 8"));
        s.test("- `consumer`: number of a consumer", "6 * join(3) = 0..5", "consumer(0|5, 0) = 3", "consumer(-1|6, 0) ! index");
        String what = "- `what`: 0 topic, 1 position, 2 unread messages, 3 spilled messages, 4 its hold (the next number if it has none), 5 the sum "
            + "of the lengths of its unread messages";
        s.test(what, "send(2, 0, 9, NONE) = 0", "join(2) = 0", "consumer(0, 0..5) = 2 1 0 0 2 0", "begin() = 0", "consumer(0, 4) = 3",
            "send(2, 0, 20, NONE) = 3", "send(2, 0, 0, NONE) = 4", "send(2, 0, 1, NONE) = 5", "send(2, 0, 7, 0) = 6", "consumer(0, 0..5) = 2 1 3 0 3 21",
            "read(0, 1) = 1", "consumer(0, 0..5) = 2 2 2 0 4 1", "read(0, 9) = 2", "consumer(0, 0..5) = 2 4 0 0 9 0");
        // the lengths of spilled messages count, also of those that are not in the log any more
        s.test(what, "configure(40, 40, 9) = 0", "join(0) = 0", "checkpoint() = 1", "2 * send(0, 0, 20, NONE) = 2 3", "flush() = 2", "state(2) = 3",
            "consumer(0, 0..5) = 0 0 2 2 4 40");
        s.test("Returns the value.", "join(0) = 0", "consumer(0, 0..5) = 0 0 0 0 1 0");
        s.test("Throws `IndexOutOfBoundsException` if there is no such consumer", "consumer(0, 0) ! index", "2 * join(0) = 0 1",
            "consumer(-1|2|6|LEAST|MOST, 0) ! index", "consumer(2, 6) ! index", "consumer(-1, -1) ! index");
        s.test("Throws `IllegalArgumentException` if what is not 0 to 5", Rows.with(BUSY, "consumer(0|1, -1|6|LEAST|MOST) ! argument"));
        s.part("Promise 37");
        s.test("Returns the share of the visible messages of its topic that a consumer has not read.", "join(0) = 0", "3 * send(0, 0, 0, NONE) = 1..3",
            "send(1, 0, 0, NONE) = 4", "lag(0) = 3/3", "read(0, 1) = 1", "lag(0) = 2/3", "read(0, 1) = 1", "lag(0) = 1/3", "read(0, 1) = 1", "lag(0) = 0/3");
        s.test("- `consumer`: number of a consumer", "6 * join(0) = 0..5", "send(0, 0, 0, NONE) = 6", "read(5, 1) = 1", "lag(0|5) = 1/1 0/1", "lag(-1|6) ! index");
        String share = "Returns unread messages divided by visible messages, both converted to float; 0 if there are no visible messages.";
        s.test(share, "join(0) = 0", "lag(0) = 0/1", "send(1, 0, 0, NONE) = 1", "lag(0) = 0/1", "begin() = 0", "send(0, 0, 0, 0) = 3", "lag(0) = 0/1",
            "commit(0) = 1", "lag(0) = 1/1", "crash(4) = 1", "lag(0) = 0/1");
        s.test(share, "configure(40, 9999, 0) = 0", "6 * send(0, 0, 20, NONE) = 0..5", "join(0) = 0", "checkpoint() = 7", "send(0, 0, 0, NONE) = 8",
            "lag(0) = 1/7");
        s.test("Throws `IndexOutOfBoundsException` if there is no such consumer", "lag(0|-1) ! index", "2 * join(0) = 0 1", "lag(-1|2|LEAST|MOST) ! index",
            "lag(1) = 0/1");
    }

    private static void holders(Sentences s) {
        s.part("Promise 38");
        String kinds = "Returns what keeps the log from being trimmed further: of the four kinds of holds in section 5 the least one, the first kind on "
            + "a tie.";
        s.test(kinds, "holder() = 0", "begin() = 0", "holder() = 0", "flush() = 1", "holder() = 1", "commit(0) = 0", "flush() = 1", "holder() = 0",
            "send(0, 0, 0, NONE) = 2", "holder() = 0", "flush() = 1", "holder() = 0", "write(0, 0, 0, NONE) = 3", "holder() = 0", "flush() = 1", "holder() = 2");
        s.test("Returns 0 for (a), 1 for (b), 2 for (c), 3 for (d).", "configure(400, 9999, 0) = 0", "join(0) = 0", "holder() = 2", "checkpoint() = 1",
            "holder() = 0", "send(0, 0, 0, NONE) = 2", "state(4) = 2", "holder() = 0", "flush() = 1", "state(4) = 2", "holder() = 3", "begin() = 0",
            "write(0, 0, 0, NONE) = 4", "flush() = 2", "holder() = 3", "read(0, 1) = 1", "state(4) = 3", "holder() = 1", "abort(0) = 0", "state(4) = 4",
            "holder() = 2", "checkpoint() = 7", "state(4) = 8", "holder() = 0");
        // a write in a transaction and the transaction itself: the begin record is before it
        s.test(kinds, "write(0, 0, 0, NONE) = 0", "begin() = 0", "flush() = 2", "state(4) = 0", "holder() = 2", "checkpoint() = 2", "state(4) = 1",
            "holder() = 1");
        s.part("Promise 39");
        s.test("Returns the consumer with the least hold. The lowest number wins a tie.", "join(0) = 0", "slowest() = 0", "join(1|2|1) = 1 2 3",
            "slowest() = 0", "send(2, 0, 0, NONE) = 4", "slowest() = 2", "send(1, 0, 0, NONE) = 5", "slowest() = 2", "read(2, 1) = 1", "slowest() = 1",
            "read(1, 1) = 1", "slowest() = 3", "read(3, 1) = 1", "slowest() = 0");
        s.test("Returns the number of the consumer.", "6 * join(0) = 0..5", "send(0, 0, 0, NONE) = 6", "read(0..4, 1) = 1", "slowest() = 5");
        // all of it is spilled: that is no hold
        s.test("Returns the consumer with the least hold. The lowest number wins a tie.", Rows.with(BUSY, "consumer(0..1, 4) = 7 6", "slowest() = 1"));
        s.test("Throws `NoSuchElementException` if there are no consumers", "slowest() ! element", "send(0, 0, 0, NONE) = 0", "slowest() ! element",
            "join(0) = 0", "slowest() = 0", "configure(40, 40, 0) = 2", "slowest() ! element");
        wouldFree(s);
    }

    private static void wouldFree(Sentences s) {
        s.part("Promise 40");
        String predicts = "Predicts how many bytes would be trimmed if a consumer had read all its messages and everything else stayed as it is (no "
            + "record is appended, nothing is flushed).";
        String[] two = {"configure(40, 9999, 0) = 0", "join(0|1) = 0 1", "checkpoint() = 2", "send(0, 0, 20, NONE) = 3", "send(0, 0, 19, NONE) = 4",
            "send(1, 0, 18, NONE) = 5", "send(0, 0, 20, NONE) = 6"};
        s.test(predicts, Rows.with(two, "state(1|2) = 3 3", "wouldFree(0..1) = 0", "flush() = 4", "state(2) = 3", "wouldFree(0..1) = 59 0",
            "consumer(0, 1..2) = 0 3", "state(0..3) = 7 7 3 117", "read(0, 3) = 3", "state(2) = 5", "wouldFree(0..1) = 0 28", "state(3) = 66"));
        // only sealed segments whose numbers are all less than the hold
        s.test(predicts, "configure(40, 9999, 0) = 0", "join(0) = 0", "checkpoint() = 1", "send(0, 0, 12, NONE) = 2", "begin() = 0", "flush() = 2",
            "wouldFree(0) = 0", "send(1, 0, 20, NONE) = 4", "flush() = 1", "wouldFree(0) = 0", "commit(0) = 0", "flush() = 1", "state(2) = 0",
            "wouldFree(0) = 40");
        s.test(predicts, "configure(40, 9999, 0) = 0", "join(0) = 0", "send(0, 0, 20, NONE) = 1", "send(0, 0, 20, NONE) = 2", "flush() = 2",
            "wouldFree(0) = 0", "holder() = 2");
        // what could be trimmed anyway counts, too
        s.test(predicts, Rows.with(Rows.TO_BE_TRIMMED, "wouldFree(0) = 22", "state(2) = 0", "flush() = 0", "state(2) = 4", "wouldFree(0) = 0"));
        s.test("- `consumer`: number of a consumer", "6 * join(0) = 0..5", "wouldFree(0|5) = 0", "wouldFree(-1|6) ! index");
        s.test("Returns the number of bytes.", "configure(40, 9999, 0) = 0", "join(0) = 0", "wouldFree(0) = 0", "checkpoint() = 1", "send(0, 0, 20, NONE) = 2",
            "flush() = 1", "send(0, 0, 11, NONE) = 3", "wouldFree(0) = 30", "send(0, 0, 20, NONE) = 4", "flush() = 2", "wouldFree(0) = 51");
        s.test("Throws `IndexOutOfBoundsException` if there is no such consumer", "wouldFree(0|-1) ! index", "2 * join(0) = 0 1",
            "wouldFree(-1|2|6|LEAST|MOST) ! index", "wouldFree(1) = 0");
    }

    public static void main(String[] args) throws IOException {
        Sentences s = new Sentences(check);
        state(s);
        record(s);
        segments(s);
        order(s);
        transaction(s);
        blocks(s);
        brokerViews(s);
        consumer(s);
        holders(s);
        s.end();
    }
}
