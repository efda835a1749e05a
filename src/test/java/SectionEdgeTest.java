import java.io.IOException;

/** 'What it is' and sections 1 to 6 of the description: the edges that their sentences name. */
public final class SectionEdgeTest {
    private static final Check check = new Check();

    private static void calls(Sentences s) {
        s.part("What it is");
        s.quote("A write-ahead log that a file store and a message broker share. Typed records lie in segments, transactions span "
            + "files and messages, consumers read messages at their own pace and thereby hold the log, which is trimmed by whole "
            + "segments; consumers that lag too far behind are spilled. After a crash, or for any prefix of the log, the views of both "
            + "users are recovered, and both see the same order.");
        String sentence = "An object is used for at most 512 calls after it has been made; what later calls answer is free.";
        // each of these runs has 512 calls, the last of which is still answered
        allCalls(s.test(sentence, "configure(40, 9999, 100) = 0", "400 * send(3, 9999, 20, NONE) = 0..399", "state(3) = 12000",
            "flush() = 400", "state(3) = 30", "107 * visibleAt(400, 3) = 400", "visible(3, 399) = 399"));
        allCalls(s.test(sentence, "append(0, 0, 0, 0, 0) = 20", "truncate(0) = 0", "510 * run() = 0"));
        String[] scripts = new String[0];
        for (int n = 0; n < 127; n++) scripts = Rows.with(scripts, "say repeat 50(repeat 50(flush;););", "run() = 201");
        allCalls(s.test(sentence, Rows.with(scripts, "failure() = 4", "errorCode() = 0", "state(0) = 0", "flush() = 0")));
        allCalls(s.test(sentence, "configure(40, 40, 100) = 0", "6 * join(0) = 0..5", "100 * crash(6) = 0",
            "394 * send(0, 0, 20, NONE) = 6..399", "9 * state(0) = 400", "state(9) = 100", "flush() = 394"));
    }

    private static void allCalls(Run run) {
        check.due("the number of calls", run.calls().size(), 512);
    }

    private static void records(Sentences s) {
        s.part("Section 1");
        s.test("Records have the numbers 0, 1, 2 and so on; the next number is that of the next record.",
            "state(0) = 0", "write(0, 0, 0, NONE) = 0", "state(0) = 1", "remove(0, NONE) = 1", "state(0) = 2", "send(0, 0, 0, NONE) = 2",
            "begin() = 0", "state(0) = 4", "copy(0, 1, 0) = 4", "commit(0) = 1", "state(0) = 6", "join(0) = 0", "state(0) = 7",
            "checkpoint() = 7", "state(0) = 8", "flush() = 0", "read(0, 1) = 0", "state(0) = 8");
        s.test("The next number is at most 400 (after a crash, numbers are given again).", Rows.with(Rows.TO_399,
            "write(0, 1, 8, NONE) = 399", "state(0) = 400", "write(0, 2, 9, NONE) ! state", "block(0, 0..3) = 7 8 0 0",
            "crash(399) = 1", "state(0) = 399", "block(0, 0..3) = 7 0 0 0", "send(0, 5, 6, NONE) = 399", "record(399, 0..4) = 6 NONE 0 5 6",
            "send(0, 5, 6, NONE) ! state", "crash(1) = 399", "state(0) = 1", "remove(0, NONE) = 1", "record(1, 0) = 4"));
        String[] types = {"configure(400, 9999, 0) = 0", "2 * begin() = 0 1", "write(7, 3, 9999, 1) = 2", "remove(6, 1) = 3",
            "copy(5, 4, 1) = 4", "send(3, 21, 20, 1) = 5", "send(2, 22, 0, NONE) = 6", "commit(1) = 4", "begin() = 1", "abort(1) = 0",
            "join(2) = 0", "checkpoint() = 11"};
        s.test("A record has a type, at most three numbers (0 where there are fewer), and perhaps a transaction.", Rows.with(types,
            "record(0..11, 0) = 0 0 3 4 5 6 6 1 0 2 7 8", "record(0..11, 1) = 0 1 1 1 1 1 NONE 1 8 8 NONE NONE",
            "record(0..11, 2) = 0 1 7 6 5 3 2 1 1 1 0 0", "record(0..11, 3) = 0 0 3 0 4 21 22 0 0 0 1 0",
            "record(0..11, 4) = 0 0 9999 0 0 20 0 0 0 0 2 0"));
        s.quote("The types, their numbers and their sizes in bytes are:");
        s.test("0 begin of a transaction: the transaction; 4 bytes", Rows.with(types, "record(1, 0|2|3|4|5) = 0 1 0 0 4"));
        s.test("1 commit: the transaction; 4 bytes", Rows.with(types, "record(7, 0|2|3|4|5) = 1 1 0 0 4"));
        s.test("2 abort: the transaction; 4 bytes", Rows.with(types, "record(9, 0|2|3|4|5) = 2 1 0 0 4"));
        s.test("3 write: file, block, value; 12 bytes", Rows.with(types, "record(2, 0|2|3|4|5) = 3 7 3 9999 12"));
        s.test("4 remove: file; 6 bytes", Rows.with(types, "record(3, 0|2|3|4|5) = 4 6 0 0 6"));
        s.test("5 copy: source file, target file; 8 bytes", Rows.with(types, "record(4, 0|2|3|4|5) = 5 5 4 0 8"));
        s.test("6 message: topic, key, length; 10 bytes plus the length", Rows.with(types,
            "record(5, 0|2|3|4|5) = 6 3 21 20 30", "record(6, 0|2|3|4|5) = 6 2 22 0 10", "send(0, 1, 1, NONE) = 12", "record(12, 5) = 11"));
        s.test("7 offset: consumer, position, topic; 8 bytes", Rows.with(types, "record(10, 0|2|3|4|5) = 7 0 1 2 8",
            "join(3) = 1", "record(12, 0|2|3|4|5) = 7 1 1 3 8", "send(3, 0, 0, NONE) = 13", "read(1, 1) = 1", "record(14, 0|2|3|4|5) = 7 1 2 3 8"));
        s.test("8 checkpoint: no numbers; 6 bytes", Rows.with(types, "record(11, 0|2|3|4|5) = 8 0 0 0 6"));
        s.test("Records of the types 3 to 6 may belong to a transaction, which is known by the number of its begin record; the records "
            + "of types 1 and 2 belong to the transaction that they end, and a begin record to its own one.", Rows.with(types,
            "record(0|1|8, 1) = 0 1 8", "record(2..5, 1) = 1", "record(6|10|11, 1) = NONE", "record(7|9, 1) = 1 8"));
        checksums(s);
    }

    /** The checksum reckoned without a cast: wrapped by the remainder of 65536. */
    private static String sum(int... values) {
        int c = 7;
        for (int v : values) c = Math.floorMod(31 * c + v + 32768, 65536) - 32768;
        return String.valueOf(c);
    }

    private static void checksums(Sentences s) {
        String sentence = "The checksum of a record is c, where c is 7 at first and becomes 31 * c + v, reduced to a signed 16-bit number "
            + "(like a cast to short), for each of these v in order: its number, its type, the number of its begin record (-1 without "
            + "a transaction), its three numbers, its size.";
        // 7, 217, 6727, 11929 (of 208537), -23417 (of 369799), -5031 (of -725927), -24889 (of -155961), 14877 (of -771555)
        s.test(sentence, "begin() = 0", "record(0, 6) = 14877");
        s.test(sentence, "begin() = 0", "begin() = 1", "write(7, 3, 9999, 1) = 2", "remove(6, 1) = 3", "copy(5, 4, 1) = 4",
            "send(3, 21, 20, NONE) = 5", "commit(1) = 3", "record(1, 6) = " + sum(1, 0, 1, 1, 0, 0, 4),
            "record(2, 6) = " + sum(2, 3, 1, 7, 3, 9999, 12), "record(3, 6) = " + sum(3, 4, 1, 6, 0, 0, 6),
            "record(4, 6) = " + sum(4, 5, 1, 5, 4, 0, 8), "record(5, 6) = " + sum(5, 6, -1, 3, 21, 20, 30),
            "record(6, 6) = " + sum(6, 1, 1, 1, 0, 0, 4));
        // the greatest and the least number of 16 bits, and 0 and -1 behind a wrap-around
        s.test(sentence, "2 * begin() = 0 1", "write(0, 0, 4996, NONE) = 2", "record(2, 6) = 32767");
        s.test(sentence, "write(7, 0, 9818, NONE) = 0", "record(0, 6) = -32768");
        s.test(sentence, "2 * begin() = 0 1", "write(0, 0, 3939, NONE) = 2", "record(2, 6) = 0");
        s.test(sentence, "begin() = 0", "send(0, 7266, 20, NONE) = 1", "record(1, 6) = -1");
        String damaged = "If the record is damaged, its checksum is that number with the lowest bit inverted.";
        s.test(damaged, "begin() = 0", "damage(0) = 1", "record(0, 6) = 14876", "damage(0) = 1", "record(0, 6) = 14876", "flush() = 1",
            "record(0, 6) = 14877");
        s.test(damaged, "2 * begin() = 0 1", "write(0, 0, 4996, NONE) = 2", "damage(2) = 1", "record(2, 6) = 32766");
        s.test(damaged, "write(7, 0, 9818, NONE) = 0", "damage(0) = 1", "record(0, 6) = -32767");
        s.test(damaged, "2 * begin() = 0 1", "write(0, 0, 3939, NONE) = 2", "damage(2) = 1", "record(2, 6) = 1");
        s.test(damaged, "begin() = 0", "send(0, 7266, 20, NONE) = 1", "damage(1) = 1", "record(1, 6) = -2");
    }

    private static void segments(Sentences s) {
        s.part("Section 2");
        String capacity = "A segment has a number (0, 1, 2 and so on) and a capacity (100 bytes at first).";
        s.test(capacity, "5 * send(0, 0, 10, NONE) = 0..4", "segments() = 1", "segment(0, 3) = 100", "begin() = 0", "segments() = 2",
            "5 * send(0, 0, 10, NONE) = 6..10", "segments() = 3", "segment(0..2, 0) = 0 1 2");
        s.test(capacity, "4 * send(0, 0, 10, NONE) = 0..3", "send(0, 0, 11, NONE) = 4", "segments() = 2", "segment(0..1, 3) = 80 21");
        s.test("Records are appended to the last segment, which is open.", "configure(40, 9999, 0) = 0", "send(0, 0, 20, NONE) = 0",
            "segment(0, 4) = 0", "write(0, 0, 0, NONE) = 1", "segment(0..1, 4) = 1 0", "begin() = 0", "record(0..2, 7) = 0 1 1",
            "segment(0..1, 2) = 1 2", "send(0, 0, 20, NONE) = 3", "segment(0..2, 4) = 1 1 0");
        String full = "If a record does not fit into it, that segment is sealed, and a new one with the next number is opened, which "
            + "begins with this record.";
        s.test(full, "configure(40, 9999, 0) = 0", "send(0, 0, 20, NONE) = 0", "send(0, 0, 0, NONE) = 1", "segments() = 1",
            "segment(0, 0..4) = 0 0 2 40 0", "begin() = 0", "segment(0, 0..4) = 0 0 2 40 1", "segment(1, 0..4) = 1 2 1 4 0");
        s.test(full, "configure(40, 9999, 0) = 0", "send(0, 0, 20, NONE) = 0", "send(0, 0, 1, NONE) = 1", "segments() = 2",
            "segment(0, 0..4) = 0 0 1 30 1", "segment(1, 0..4) = 1 1 1 11 0");
        // the last number of a segment: each of the 400 records has one of its own
        s.test(full, "configure(40, 9999, 0) = 0", "begin() = 0", "say repeat 4(repeat 48(send 0 0 20 in 0;););", "run() = 197",
            "say repeat 4(repeat 48(send 0 0 20 in 0;););", "run() = 197", "15 * send(0, 0, 20, 0) = 385..399", "segments() = 399",
            "segment(398, 0..4) = 398 399 1 30 0");
        s.test("At first there is the open segment 0 without records.", "segments() = 1", "segment(0, 0..4) = 0", "fill(0) = 0/100");
    }

    private static void effects(Sentences s) {
        s.part("Section 3");
        s.test("There are four transactions, 0 to 3, each of which is open or not.", "transaction(0..3, 0) = 0", "begin() = 0",
            "transaction(0..3, 0) = 1 0 0 0", "3 * begin() = 1 2 3", "transaction(0..3, 0) = 1", "begin() ! state",
            "transaction(-1|4, 0) ! index", "commit(3) = 0", "abort(0) = 0", "transaction(0..3, 0) = 0 1 1 0", "begin() = 0", "begin() = 3");
        s.test("A record of the types 3 to 7 without a transaction is effective, and its effect is its own number.",
            "write(0, 0, 1, NONE) = 0", "remove(0, NONE) = 1", "copy(0, 1, NONE) = 2", "send(0, 0, 0, NONE) = 3", "join(0) = 0",
            "record(0..4, 8) = 0..4", "begin() = 0", "commit(0) = 0", "begin() = 0", "abort(0) = 0", "record(5..8, 8) = NONE");
        s.test("A record of the types 3 to 7 without a transaction is effective, and its effect is its own number.",
            "checkpoint() = 0", "record(0, 8) = NONE");
        s.test("A record of a transaction (types 3 to 6) is effective if the transaction was committed, and its effect is the number of "
            + "the commit record.", "2 * begin() = 0 1", "write(0, 0, 1, 0) = 2", "remove(2, 0) = 3", "copy(0, 1, 0) = 4",
            "send(0, 0, 0, 0) = 5", "write(0, 0, 9, 1) = 6", "record(2..6, 8) = NONE", "commit(0) = 4", "record(2..5, 8) = 7",
            "record(0|1|6|7, 8) = NONE", "abort(1) = 1", "record(6|8, 8) = NONE", "block(0, 0) = 1");
        s.test("The order of effects is that of effective records by ascending effects, for equal effects by ascending numbers.",
            "2 * begin() = 0 1", "write(0, 0, 1, 1) = 2", "send(0, 0, 0, 0) = 3", "send(0, 0, 0, 1) = 4", "write(0, 1, 1, 0) = 5",
            "send(0, 0, 0, NONE) = 6", "commit(1) = 2", "send(0, 0, 0, NONE) = 8", "commit(0) = 2", "order(10, 0..5) = 6 2 4 8 3 5",
            "order(10, 6) ! element", "visible(0, 0..3) = 6 4 8 3");
        files(s);
        s.test("There are 4 topics, 0 to 3.", "send(0..3, 0, 0, NONE) = 0..3", "visibleAt(4, 0..3) = 1", "send(-1|4, 0, 0, NONE) ! index",
            "join(0|3) = 0 1", "join(-1|4) ! index", "visible(0..3, 0) = 0..3", "visible(-1|4, 0) ! index", "visibleAt(4, -1|4) ! index");
        s.test("The effective messages of a topic are visible; they are numbered from 0 in the order of effects.",
            "visibleAt(0, 0..3) = 0", "begin() = 0", "send(1, 0, 0, 0) = 1", "visible(1, 0) ! element", "send(1, 0, 0, NONE) = 2",
            "send(0, 0, 0, NONE) = 3", "visible(1, 0) = 2", "visible(1, 1) ! element", "commit(0) = 1", "visible(1, 0..1) = 2 1",
            "visible(0, 0) = 3", "begin() = 0", "send(1, 0, 0, 0) = 6", "abort(0) = 1", "visible(1, 2) ! element");
    }

    private static void files(Sentences s) {
        s.test("There are 8 files, 0 to 7, with 4 blocks each; at first none of them exists.", "block(0..7, 0..3) = NONE",
            "block(-1|8, 0) ! index", "block(0, -1|4) ! index", "write(0|7, 0|3, 6, NONE) = 0..3", "block(0|7, 0..3) = 6 0 0 6 6 0 0 6",
            "block(1..6, 0..3) = NONE", "write(-1|8, 0, 0, NONE) ! index", "write(0, -1|4, 0, NONE) ! index");
        s.test("A write makes the file exist, if it does not, with all blocks 0, and then sets a block.", "write(5, 2, 0, NONE) = 0",
            "block(5, 0..3) = 0", "write(5, 2, 9999, NONE) = 1", "block(5, 0..3) = 0 0 9999 0", "write(5, 0, 4, NONE) = 2",
            "block(5, 0..3) = 4 0 9999 0", "remove(5, NONE) = 3", "write(5, 1, 3, NONE) = 4", "block(5, 0..3) = 0 3 0 0");
        s.test("A remove makes the file not exist.", "remove(0, NONE) = 0", "block(0, 0..3) = NONE", "write(0, 0, 1, NONE) = 1",
            "write(1, 0, 1, NONE) = 2", "remove(0, NONE) = 3", "block(0, 0..3) = NONE", "block(1, 0) = 1", "remove(0, NONE) = 4",
            "block(0, 0) = NONE");
        s.test("A copy makes the target like the source: with the same blocks, or not existing.", "write(0, 0, 1, NONE) = 0",
            "write(0, 3, 2, NONE) = 1", "write(7, 1, 3, NONE) = 2", "copy(0, 7, NONE) = 3", "block(7, 0..3) = 1 0 0 2",
            "write(0, 0, 5, NONE) = 4", "block(7, 0) = 1", "copy(6, 7, NONE) = 5", "block(7, 0..3) = NONE", "block(0, 0..3) = 5 0 0 2",
            "copy(6, 5, NONE) = 6", "block(5, 0) = NONE", "write(7, 2, 8, NONE) = 7", "block(7, 0..3) = 0 0 8 0");
        s.test("These things happen in the order of effects.", "begin() = 0", "write(0, 0, 1, 0) = 1", "copy(0, 1, 0) = 2",
            "remove(2, 0) = 3", "write(0, 0, 2, NONE) = 4", "write(2, 0, 3, NONE) = 5", "block(0..2, 0) = 2 NONE 3", "commit(0) = 3",
            "block(0..2, 0) = 1 1 NONE");
    }

    private static void consumers(Sentences s) {
        s.part("Section 4");
        s.test("There are at most 6 consumers, numbered from 0.", "state(8) = 0", "consumer(0, 0) ! index", "6 * join(2) = 0..5",
            "state(8) = 6", "join(2) ! state", "consumer(0..5, 0) = 2", "consumer(6, 0) ! index", "state(8) = 6");
        s.test("A consumer belongs to a topic and has a position, the number of the next message that it reads.",
            "send(1, 10, 0, NONE) = 0", "join(1) = 0", "join(2) = 1", "consumer(0..1, 0) = 1 2", "consumer(0..1, 1) = 1 0",
            "send(1, 11, 0, NONE) = 3", "send(1, 12, 0, NONE) = 4", "read(0, 1) = 1", "message(0, 1) = 11", "consumer(0, 1) = 2",
            "read(0, 1) = 1", "message(0, 1) = 12", "consumer(0, 1) = 3", "read(0, 1) = 0", "consumer(0, 1) = 3");
        s.test("The visible messages from the position on are unread.", "send(0, 0, 0, NONE) = 0", "join(0) = 0", "consumer(0, 2) = 0",
            "begin() = 0", "send(0, 0, 0, 0) = 3", "send(1, 0, 0, NONE) = 4", "consumer(0, 2) = 0", "commit(0) = 1", "consumer(0, 2) = 1",
            "send(0, 0, 0, NONE) = 6", "consumer(0, 2) = 2", "read(0, 1) = 1", "consumer(0, 2) = 1");
        // 90 bytes are more than 80: the messages of both are spilled, and none is needed any more
        s.test("Some of its unread messages may be spilled: their contents are copied aside, so that their records are not needed for "
            + "this consumer any more.", "configure(40, 80, 3) = 0", "join(0) = 0", "checkpoint() = 1", "send(0, 5, 20, NONE) = 2",
            "send(0, 6, 19, NONE) = 3", "send(1, 7, 20, NONE) = 4", "flush() = 3", "state(2) = 4", "consumer(0, 1..5) = 0 2 2 5 39",
            "send(0, 8, 1, NONE) = 5", "consumer(0, 1..5) = 0 3 2 5 40", "visible(0, 0) ! element", "read(0, 3) = 3",
            "message(0..2, 0) = 2 3 5", "message(0..2, 1) = 5 6 8", "message(0..2, 2) = 20 19 1");
    }

    private static void holds(Sentences s) {
        s.part("Section 5");
        s.test("A record is durable if its number is less than the durable end, which is 0 at first.", "state(1) = 0",
            "2 * write(0, 0, 1, NONE) = 0 1", "state(1) = 0", "damage(0) = 1", "flush() = 2", "state(1) = 2", "write(0, 0, 2, NONE) = 2",
            "damage(0..1) ! state", "damage(2) = 1");
        s.test("The checkpoint position is the number of the latest checkpoint record, 0 without one.", "state(6) = 0",
            "2 * write(0, 0, 1, NONE) = 0 1", "state(6) = 0", "checkpoint() = 2", "state(6) = 2", "write(0, 0, 1, NONE) = 3", "state(6) = 2",
            "checkpoint() = 4", "state(6) = 4");
        s.test("The hold is the least of these numbers:", "configure(400, 9999, 0) = 0", "state(4) = 0", "join(0) = 0", "state(4) = 0",
            "checkpoint() = 1", "state(4) = 2", "send(0, 0, 0, NONE) = 2", "begin() = 0", "write(0, 0, 0, NONE) = 4", "flush() = 3",
            "state(4) = 2", "read(0, 1) = 1", "state(4) = 3", "abort(0) = 0", "state(4) = 4", "checkpoint() = 7", "state(4) = 8",
            "send(0, 0, 0, NONE) = 8", "send(1, 0, 0, NONE) = 9", "state(4) = 8");
        s.test("(a) the durable end;", "configure(400, 9999, 0) = 0", "state(4) = 0", "send(0, 0, 0, NONE) = 0", "state(4) = 0",
            "holder() = 0", "flush() = 1", "state(4) = 1", "send(0, 0, 0, NONE) = 1", "state(4) = 1", "holder() = 0");
        s.test("(b) the number of the begin record of each open transaction;", "configure(400, 9999, 0) = 0", "send(0, 0, 0, NONE) = 0",
            "2 * begin() = 0 1", "flush() = 3", "state(4) = 1", "holder() = 1", "commit(0) = 0", "flush() = 1", "state(4) = 2",
            "begin() = 0", "flush() = 1", "state(4) = 2", "abort(1) = 0", "flush() = 1", "state(4) = 4", "commit(0) = 0", "flush() = 1",
            "state(4) = 7", "holder() = 0");
        neededRecords(s);
        String unread = "(d) for each consumer its hold, the least number of the records of its unread messages that are not spilled (the "
            + "next number if there are none).";
        s.test(unread, "configure(400, 9999, 0) = 0", "join(0) = 0", "consumer(0, 4) = 1", "begin() = 0", "send(0, 1, 0, 0) = 2",
            "send(0, 2, 0, NONE) = 3", "checkpoint() = 4", "state(4) = 1", "consumer(0, 4) = 3", "commit(0) = 1", "flush() = 1",
            "consumer(0, 4) = 2", "state(4) = 2", "holder() = 3", "read(0, 1) = 1", "message(0, 0) = 3", "consumer(0, 4) = 2", "state(4) = 2",
            "read(0, 1) = 1", "consumer(0, 4) = 8", "state(4) = 6", "holder() = 2");
        s.test(unread, "configure(400, 40, 1) = 0", "join(0) = 0", "join(1) = 1", "checkpoint() = 2", "send(0, 0, 20, NONE) = 3",
            "send(1, 0, 0, NONE) = 4", "send(0, 0, 0, NONE) = 5", "flush() = 3", "consumer(0..1, 3) = 1 0", "consumer(0..1, 4) = 5 4",
            "state(4) = 4");
    }

    private static void neededRecords(Sentences s) {
        String needed = "(c) the least number of an effective record of the types 3, 4, 5 and 7 in the log whose effect is at least the "
            + "checkpoint position (the next number if there is none);";
        s.test(needed, "begin() = 0", "send(0, 0, 0, 0) = 1", "commit(0) = 1", "begin() = 0", "abort(0) = 0", "send(0, 0, 0, NONE) = 5",
            "flush() = 6", "state(4) = 6");
        for (String change : new String[] {"write(0, 0, 0, NONE) = 0", "remove(0, NONE) = 0", "copy(0, 1, NONE) = 0"}) {
            // without a checkpoint its position is 0, and an effect of 0 is at least that
            s.test(needed, change, "flush() = 1", "state(4) = 0", "holder() = 2", "checkpoint() = 1", "state(4) = 2", "holder() = 0",
                change.replace(" = 0", " = 2"), "flush() = 1", "state(4) = 2", "holder() = 2", "checkpoint() = 3", "state(4) = 4");
        }
        s.test(needed, "join(0) = 0", "flush() = 0", "state(4) = 0", "holder() = 2", "checkpoint() = 1", "state(4) = 2", "join(0) = 1",
            "state(4) = 2", "holder() = 2");
        // the effect counts, not the number: a record before the checkpoint is needed, if its commit is behind it
        s.test(needed, "begin() = 0", "send(0, 0, 0, 0) = 1", "write(0, 0, 1, 0) = 2", "checkpoint() = 3", "state(4) = 0", "commit(0) = 2",
            "flush() = 1", "state(4) = 2", "holder() = 2", "checkpoint() = 5", "state(4) = 6");
        s.test(needed, "begin() = 0", "write(0, 0, 1, 0) = 1", "commit(0) = 1", "checkpoint() = 3", "state(4) = 4");
        s.test(needed, "begin() = 0", "write(0, 0, 1, 0) = 1", "abort(0) = 1", "flush() = 3", "state(4) = 3", "holder() = 0");
    }

    private static void trimming(Sentences s) {
        String trim = "To trim the log, its segments are removed from the first one on, as long as the segment is sealed and all numbers "
            + "of its records are less than the hold.";
        s.test(trim, "configure(40, 9999, 0) = 0", "send(0, 0, 20, NONE) = 0", "send(0, 0, 0, NONE) = 1", "flush() = 2", "segments() = 1",
            "state(2) = 0", "send(0, 0, 20, NONE) = 2", "segments() = 1", "state(2) = 2", "state(5) = 1", "flush() = 1", "segments() = 1",
            "state(2) = 2", "state(4) = 3");
        s.test(trim, "configure(40, 9999, 0) = 0", "send(0, 0, 20, NONE) = 0", "begin() = 0", "send(0, 0, 20, NONE) = 2", "flush() = 3",
            "state(4) = 1", "segments() = 2", "state(5) = 0", "commit(0) = 0", "state(4) = 3", "segments() = 1", "state(5) = 1",
            "state(2) = 2");
        s.test(trim, "configure(40, 9999, 0) = 0", "send(0, 0, 20, NONE) = 0", "send(0, 0, 0, NONE) = 1", "begin() = 0", "flush() = 3",
            "state(4) = 2", "segments() = 1", "state(2) = 2");
        s.test(trim, "configure(40, 9999, 0) = 0", "begin() = 0", "4 * send(0, 0, 20, NONE) = 1..4", "flush() = 5", "segments() = 4",
            "state(5) = 0", "abort(0) = 0", "segments() = 1", "state(5) = 3", "segment(0, 0..4) = 3 4 2 34 0");
        String each = "After each operation that succeeds (begin, commit, abort, write, remove, copy, send, join, read, flush and "
            + "checkpoint), the log is trimmed.";
        String[] operations = {"begin() = 0", "remove(0, NONE) = 5", "copy(0, 1, NONE) = 5", "send(0, 0, 0, NONE) = 5", "join(0) = 1",
            "read(0, 1) = 0", "flush() = 0", "checkpoint() = 5"};
        for (String operation : operations) s.test(each, Rows.with(Rows.TO_BE_TRIMMED, operation, "state(2) = 4", "state(5) = 1"));
        s.test(each, Rows.with(Rows.TO_BE_TRIMMED, "write(0, 0, 0, NONE) = 5", "state(2) = 5", "state(5) = 2"));
        for (String end : new String[] {"commit(0) = 0", "abort(0) = 0"}) {
            s.test(each, "configure(40, 9999, 0) = 0", "begin() = 0", "2 * send(0, 0, 20, NONE) = 1 2", "flush() = 3", "state(2) = 0", end,
                "state(2) = 2", "state(5) = 1");
        }
        s.test(each, Rows.with(Rows.TO_BE_TRIMMED, "commit(0) ! state", "join(4) ! index", "read(0, 51) ! argument", "crash(5) = 0", "state(2) = 0",
            "say repeat 1(when 1=1(););", "run() = 2", "state(2) = 0", "say commit 0;", "run() = 1", "failure() = 3", "state(2) = 0"));
        s.test(each, "configure(40, 9999, 0) = 0", "join(0) = 0", "checkpoint() = 1", "2 * begin() = 0 1", "send(1, 0, 20, NONE) = 4",
            "flush() = 3", "send(1, 0, 0, NONE) = 5", "crash(6) = 0", "damage(5) = 1", "state(2) = 0", "flush() = 1", "state(2) = 4");
    }

    private static void spilling(Sentences s) {
        String spill = "Then, as long as the bytes of the records in the log are more than the limit (300 at first) and there is a "
            + "consumer with unread messages that are not spilled, the one with the least hold (on a tie the lowest number) is looked at: "
            + "if all its unread messages that are not spilled can be spilled, so that there are at most as many spilled messages in all "
            + "as the settings say (20 at first), they are spilled, and the log is trimmed again; otherwise nothing more is done.";
        // the limit of 300, and one byte more
        s.test(spill, "join(0) = 0", "9 * send(0, 0, 20, NONE) = 1..9", "send(0, 0, 12, NONE) = 10", "state(3) = 300", "state(9) = 0",
            "begin() = 0", "state(9) = 10");
        s.test(spill, "join(0) = 0", "9 * send(0, 0, 20, NONE) = 1..9", "send(0, 0, 13, NONE) = 10", "state(3) = 301", "state(9) = 10");
        s.test(spill, "configure(400, 40, 100) = 0", "join(0) = 0", "send(0, 0, 12, NONE) = 1", "send(0, 0, 0, NONE) = 2", "state(3) = 40",
            "flush() = 2", "state(9) = 0", "begin() = 0", "state(9) = 2");
        s.test(spill, "configure(400, 40, 100) = 0", "join(0) = 0", "send(0, 0, 12, NONE) = 1", "send(0, 0, 1, NONE) = 2", "state(3) = 41",
            "state(9) = 2");
        // the room for 20 messages, and one more
        s.test(spill, "join(0) = 0", "begin() = 0", "say repeat 20(send 0 0 20 in 0;);", "run() = 21", "state(9) = 0", "commit(0) = 20",
            "state(9) = 20", "send(0, 0, 0, NONE) = 23", "state(9) = 20", "consumer(0, 4) = 23");
        s.test(spill, "join(0) = 0", "begin() = 0", "say repeat 21(send 0 0 20 in 0;);", "run() = 22", "commit(0) = 21", "state(9) = 0");
        s.test(spill, "configure(400, 40, 2) = 0", "join(0) = 0", "send(0, 0, 20, NONE) = 1", "state(9) = 0", "send(0, 0, 0, NONE) = 2",
            "state(9) = 2", "send(0, 0, 0, NONE) = 3", "state(9) = 2", "consumer(0, 2..4) = 3 2 3");
        s.test(spill, "configure(400, 40, 0) = 0", "join(0) = 0", "3 * send(0, 0, 20, NONE) = 1..3", "state(9) = 0", "consumer(0, 4) = 1");
        s.test(spill, "configure(400, 40, 1) = 0", "join(0) = 0", "begin() = 0", "2 * send(0, 0, 20, 0) = 2 3", "commit(0) = 2",
            "state(9) = 0");
        // on a tie the lowest number; what is spilled for both counts twice
        s.test(spill, "configure(400, 40, 1) = 0", "2 * join(0) = 0 1", "send(0, 0, 20, NONE) = 2", "consumer(0..1, 3) = 1 0", "state(9) = 1");
        s.test(spill, "configure(400, 40, 2) = 0", "2 * join(0) = 0 1", "send(0, 0, 20, NONE) = 2", "consumer(0..1, 3) = 1 1", "state(9) = 2");
        s.test(spill, "configure(400, 50, 100) = 0", "6 * join(0) = 0..5", "state(9) = 0", "send(0, 0, 20, NONE) = 6",
            "consumer(0..5, 3) = 1", "state(9) = 6");
        // the least hold, not the lowest number
        s.test(spill, "configure(400, 60, 1) = 0", "join(0|1) = 0 1", "send(1, 0, 20, NONE) = 2", "send(0, 0, 10, NONE) = 3",
            "consumer(0..1, 3) = 0 1");
        // the first that does not fit ends it, though another one would fit
        s.test(spill, "configure(400, 60, 1) = 0", "join(0|1) = 0 1", "begin() = 0", "2 * send(1, 0, 0, 0) = 3 4", "send(0, 0, 0, 0) = 5",
            "commit(0) = 3", "begin() = 0", "state(3) = 58", "begin() = 1", "state(3) = 62", "state(9) = 0");
        // no more than is needed to come down to the limit
        s.test(spill, "configure(40, 70, 9) = 0", "join(0|1) = 0 1", "checkpoint() = 2", "send(0, 0, 20, NONE) = 3", "flush() = 1",
            "send(1, 0, 20, NONE) = 4", "send(2, 0, 0, NONE) = 5", "flush() = 2", "state(3) = 70", "state(9) = 0", "begin() = 0",
            "consumer(0..1, 3) = 1 0", "state(3) = 44", "state(2) = 4", "state(5) = 2");
        s.test(spill, "configure(400, 40, 100) = 0", "9 * send(0, 0, 20, NONE) = 0..8", "join(0) = 0", "state(3) = 278", "state(9) = 0",
            "send(1, 0, 20, NONE) = 10", "state(9) = 0");
        s.test("When messages are read, they are not spilled any more.", "configure(400, 40, 2) = 0", "join(0) = 0",
            "send(0, 1, 20, NONE) = 1", "send(0, 2, 0, NONE) = 2", "state(9) = 2", "read(0, 1) = 1", "state(9) = 1", "consumer(0, 3) = 1",
            "send(0, 3, 0, NONE) = 4", "state(9) = 2", "read(0, 50) = 2", "state(9) = 0", "consumer(0, 2..3) = 0");
    }

    private static void recovery(Sentences s) {
        s.part("Section 6");
        String prefixes = "Views can be recovered for each prefix p from the checkpoint position to the next number.";
        s.test(prefixes, "join(0) = 0", "write(0, 0, 1, NONE) = 1", "blockAt(0..2, 0, 0) = NONE NONE 1", "visibleAt(0..2, 0) = 0",
            "positionAt(0..2, 0) = NONE 0 0", "order(2, 0) = 0", "order(0, 0) ! element", "blockAt(-1|3, 0, 0) ! argument",
            "visibleAt(-1|3, 0) ! argument", "positionAt(-1|3, 0) ! argument", "order(-1|3, 0) ! argument");
        s.test(prefixes, "join(0) = 0", "write(0, 0, 1, NONE) = 1", "checkpoint() = 2", "write(0, 0, 2, NONE) = 3", "blockAt(2..4, 0, 0) = 1 1 2",
            "visibleAt(2..4, 0) = 0", "positionAt(2..4, 0) = 0", "order(2|4, 0) = 0", "blockAt(1|5, 0, 0) ! argument",
            "visibleAt(1|5, 0) ! argument", "positionAt(1|5, 0) ! argument", "order(1|5, 0) ! argument");
        s.test("Only records with effects less than p count in them.", "begin() = 0", "write(0, 0, 1, 0) = 1", "send(0, 0, 0, 0) = 2",
            "join(0) = 0", "commit(0) = 2", "join(0) = 1", "blockAt(1..6, 0, 0) = NONE NONE NONE NONE 1 1", "visibleAt(1..6, 0) = 0 0 0 0 1 1",
            "positionAt(3..4, 0) = NONE 0", "positionAt(5..6, 1) = NONE 1", "order(4, 0) = 3", "order(4, 1) ! element",
            "order(5, 0..2) = 3 1 2", "order(5, 3) ! element");
        s.test("The file view consists of the contents of the files that the latest checkpoint kept, if there is one (all records with "
            + "effects less than the checkpoint position are in them), changed by all records with effects from the checkpoint position "
            + "on to p - 1.", "configure(40, 9999, 0) = 0", "write(0, 0, 1, NONE) = 0", "write(1, 0, 2, NONE) = 1", "begin() = 0",
            "write(2, 0, 3, 0) = 3", "remove(1, 0) = 4", "checkpoint() = 5", "write(0, 1, 4, NONE) = 6", "commit(0) = 2",
            "copy(2, 3, NONE) = 8", "blockAt(5..9, 0, 0) = 1", "blockAt(5..9, 0, 1) = 0 0 4 4 4", "blockAt(5..9, 1, 0) = 2 2 2 NONE NONE",
            "blockAt(5..9, 2, 0) = NONE NONE NONE 3 3", "blockAt(5..9, 3, 0) = NONE NONE NONE NONE 3", "checkpoint() = 9",
            "blockAt(9, 0..3, 0) = 1 NONE 3 3", "blockAt(8, 0, 0) ! argument", "remove(0, NONE) = 10", "blockAt(10..11, 0, 0) = 1 NONE");
        s.test("In the broker view, a message is visible if its effect is less than p, and the position of a consumer is that of its "
            + "latest offset record with a number less than p, or the one that the checkpoint kept.", "configure(400, 9999, 0) = 0",
            "2 * join(0) = 0 1", "begin() = 0", "send(0, 1, 0, 0) = 3", "send(0, 2, 0, NONE) = 4", "read(0, 1) = 1", "commit(0) = 1",
            "visibleAt(3..7, 0) = 0 0 1 1 2", "positionAt(0..7, 0) = NONE 0 0 0 0 0 1 1", "positionAt(0..2, 1) = NONE NONE 0",
            "checkpoint() = 7", "read(0, 1) = 1", "read(1, 1) = 1", "join(1) = 2", "visibleAt(7..11, 0) = 2",
            "positionAt(7..11, 0) = 1 1 2 2 2", "positionAt(7..11, 1) = 0 0 0 1 1", "positionAt(7..11, 2) = NONE NONE NONE NONE 0");
        crash(s);
    }

    private static void crash(Sentences s) {
        String cut = "In a crash with a prefix, the log is cut at this prefix, or at the first damaged record if that is less: the next "
            + "number becomes this number, and all records from it on are lost.";
        String[] six = {"write(0, 0, 0, NONE) = 0", "flush() = 1", "write(0, 0, 1, NONE) = 1", "write(0, 0, 2, NONE) = 2",
            "write(0, 0, 3, NONE) = 3", "write(0, 0, 4, NONE) = 4", "write(0, 0, 5, NONE) = 5"};
        s.test(cut, Rows.with(six, "crash(6) = 0", "state(0) = 6", "block(0, 0) = 5"));
        s.test(cut, Rows.with(six, "crash(1) = 5", "state(0) = 1", "block(0, 0) = 0", "record(1, 0) ! index", "state(3) = 12", "state(1) = 1"));
        s.test(cut, Rows.with(six, "damage(4) = 1", "damage(3) = 2", "crash(6) = 3", "state(0) = 3", "block(0, 0) = 2", "state(10) = 3",
            "remove(0, NONE) = 3", "record(3, 9) = 0"));
        s.test(cut, Rows.with(six, "damage(3) = 1", "crash(4) = 3", "state(0) = 3"));
        s.test(cut, Rows.with(six, "damage(3) = 1", "crash(3) = 3", "state(0) = 3"));
        s.test(cut, Rows.with(six, "damage(3) = 1", "crash(2) = 4", "state(0) = 2", "block(0, 0) = 1"));
        s.test(cut, Rows.with(six, "damage(1) = 1", "crash(6) = 5", "state(0) = 1"));
        s.test(cut, "crash(0) = 0", "state(0) = 0");
        // nothing of a lost record comes back, neither by an operation that appends nothing nor by a new record before it
        s.test(cut, Rows.with(six, "crash(1) = 5", "flush() = 0", "block(0, 0) = 0", "order(1, 1) ! element", "remove(7, NONE) = 1", "block(0, 0) = 0",
            "order(2, 0..1) = 0 1", "order(2, 2) ! element", "begin() = 0", "block(0, 0) = 0", "commit(0) = 0", "block(0, 0) = 0"));
        s.test(cut, "join(0) = 0", "2 * send(0, 1, 2, NONE) = 1 2", "begin() = 0", "write(0, 0, 5, 0) = 4", "send(0, 3, 4, 0) = 5", "commit(0) = 2",
            "crash(1) = 6", "consumer(0, 2) = 0", "read(0, 9) = 0", "flush() = 0", "consumer(0, 2) = 0", "visibleAt(1, 0) = 0", "begin() = 0",
            "2 * begin() = 1 2", "consumer(0, 2) = 0", "begin() = 3", "commit(0) = 0",
            "block(0, 0) = NONE", "consumer(0, 2) = 0", "visible(0, 0) ! element");
        s.test("All open transactions end without a commit or an abort; their records that are left never become effective.",
            "4 * begin() = 0..3", "write(0, 0, 1, 0) = 4", "send(1, 0, 0, 3) = 5", "crash(6) = 0", "state(0) = 6", "state(7) = 0",
            "transaction(0..3, 0) = 0", "commit(0) ! state", "begin() = 0", "commit(0) = 0", "record(4..5, 8) = NONE", "block(0, 0) = NONE",
            "visibleAt(8, 1) = 0", "order(8, 0) ! element");
        s.test("All open transactions end without a commit or an abort; their records that are left never become effective.",
            "begin() = 0", "write(0, 0, 1, 0) = 1", "send(1, 0, 0, 0) = 2", "commit(0) = 2", "crash(3) = 1", "record(1..2, 8) = NONE",
            "block(0, 0) = NONE", "visibleAt(3, 1) = 0", "begin() = 0", "write(0, 0, 2, 0) = 4", "commit(0) = 1", "record(1..2, 8) = NONE",
            "record(4, 8) = 5", "block(0, 0) = 2", "order(6, 0) = 4", "order(6, 1) ! element");
        s.test("Messages that are not visible any more are not spilled any more.", "configure(400, 40, 5) = 0", "join(0) = 0",
            "send(0, 1, 20, NONE) = 1", "send(0, 2, 20, NONE) = 2", "begin() = 0", "send(0, 3, 0, 0) = 4", "commit(0) = 1", "state(9) = 3",
            "crash(5) = 1", "state(9) = 2", "consumer(0, 2..3) = 2", "crash(2) = 3", "state(9) = 1", "consumer(0, 2..3) = 1",
            "crash(1) = 1", "state(9) = 0", "consumer(0, 2..3) = 0");
        // a message in the place of one that was lost is not spilled
        s.test("Messages that are not visible any more are not spilled any more.", "configure(400, 60, 5) = 0", "join(0) = 0",
            "2 * send(0, 1, 20, NONE) = 1 2", "state(9) = 2", "crash(2) = 1", "send(0, 3, 0, NONE) = 2", "consumer(0, 2..4) = 2 1 2");
        crashOfSegments(s);
    }

    private static void crashOfSegments(Sentences s) {
        String[] four = {"configure(40, 9999, 0) = 0", "say repeat 4(send 0 0 20;send 0 0 0;);", "run() = 9", "segments() = 4"};
        String removed = "Segments whose first number is not less than the cut are removed.";
        s.test(removed, Rows.with(four, "crash(7) = 1", "segments() = 4", "segment(3, 0..4) = 3 6 1 30 0", "state(3) = 150"));
        s.test(removed, Rows.with(four, "crash(6) = 2", "segments() = 3", "segment(2, 0..4) = 2 4 2 40 0", "state(3) = 120"));
        s.test(removed, Rows.with(four, "crash(5) = 3", "segments() = 3", "segment(2, 0..4) = 2 4 1 30 0", "state(3) = 110"));
        s.test(removed, Rows.with(four, "crash(1) = 7", "segments() = 1", "segment(0, 0..4) = 0 0 1 30 0", "state(3) = 30"));
        String open = "The last segment that is left is open; if none is left, a new one with the number of the first removed one is "
            + "opened at the cut.";
        s.test(open, Rows.with(four, "crash(4) = 4", "segment(0..1, 4) = 1 0", "fill(1) = 1/1", "begin() = 0", "segment(2, 0..4) = 2 4 1 4 0",
            "segment(1, 4) = 1", "state(5) = 0"));
        s.test(open, Rows.with(four, "crash(5) = 3", "send(0, 0, 0, NONE) = 5", "segments() = 3", "segment(2, 0..4) = 2 4 2 40 0"));
        s.test(open, Rows.with(four, "crash(0) = 8", "segments() = 1", "segment(0, 0..4) = 0", "state(2) = 0", "state(3) = 0"));
        s.test(open, "configure(40, 9999, 0) = 0", "crash(0) = 0", "segments() = 1", "segment(0, 0..4) = 0");
        s.test(open, Rows.with(four, "flush() = 8", "state(2) = 6", "crash(8) = 0", "segments() = 1", "segment(0, 0..4) = 3 6 2 40 0",
            "2 * send(0, 0, 20, NONE) = 8 9", "segments() = 2", "state(2) = 8", "crash(8) = 2", "segments() = 1",
            "segment(0, 0..4) = 4 8 0 0 0", "state(2) = 8", "state(5) = 4", "fill(0) = 0/40", "begin() = 0", "segment(0, 0..4) = 4 8 1 4 0"));
        s.test("(The log is not trimmed by a crash.)", Rows.TO_BE_TRIMMED);
        s.test("(The log is not trimmed by a crash.)", Rows.with(Rows.TO_BE_TRIMMED, "state(5) = 0", "segments() = 2", "record(0, 0) = 7",
            "flush() = 0", "state(2) = 4", "record(0, 0) ! index"));
    }

    public static void main(String[] args) throws IOException {
        Sentences s = new Sentences(check);
        calls(s);
        records(s);
        segments(s);
        effects(s);
        consumers(s);
        holds(s);
        trimming(s);
        spilling(s);
        recovery(s);
        s.end();
    }
}
