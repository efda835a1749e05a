import java.util.ArrayList;
import java.util.List;

/** The promises but for those about scripts, one by one. The answers are told by the document. */
public final class PromiseTest {
    private static final int NONE = SharedLog.NONE;
    private static final int LEAST = Integer.MIN_VALUE;
    private static final int GREATEST = Integer.MAX_VALUE;
    private static final Check check = new Check();

    /** All numbers that tell the state, to see that a call that throws changes nothing. */
    private static List<Object> everything(SharedLog x) {
        List<Object> all = new ArrayList<>();
        for (int what = 0; what <= 10; what++) all.add(x.state(what));
        for (int s = 0; s < x.segments(); s++) {
            for (int what = 0; what <= 4; what++) all.add(x.segment(s, what));
        }
        for (int n = x.state(2); n < x.state(0); n++) {
            for (int what = 0; what <= 9; what++) all.add(x.record(n, what));
        }
        for (int t = 0; t < 4; t++) {
            for (int what = 0; what <= 2; what++) all.add(x.transaction(t, what));
            all.add(x.visibleAt(x.state(0), t));
        }
        for (int f = 0; f < 8; f++) for (int b = 0; b < 4; b++) all.add(x.block(f, b));
        for (int c = 0; c < x.state(8); c++) for (int what = 0; what <= 5; what++) all.add(x.consumer(c, what));
        for (int i = 0; i < 50; i++) {
            try {
                all.add(x.message(i, 0));
            } catch (IndexOutOfBoundsException e) {
                break;
            }
        }
        return all;
    }

    private static void refuses(SharedLog x, String call, String kind, java.util.concurrent.Callable<Object> action) {
        List<Object> before = everything(x);
        check.refuses(call, kind, action);
        check.due("the state after " + call, everything(x), before);
    }

    private static SharedLog made(int segment, int limit, int spill) {
        SharedLog x = new SharedLog();
        x.configure(segment, limit, spill);
        return x;
    }

    /** A log whose next number is 400, with one consumer of topic 1 and the transactions 0 and 1 open. */
    private static SharedLog full() {
        SharedLog x = made(400, 9999, 100);
        x.join(1);
        x.begin();
        x.begin();
        while (x.state(0) < 400) x.write(0, 0, x.state(0), NONE);
        return x;
    }

    private static void newObject() {
        check.part("promise 1");
        SharedLog x = new SharedLog();
        int[] first = {0, 0, 0, 0, 0, 0, 0, 0, 0, 0, 0};
        for (int what = 0; what < first.length; what++) check.due("state " + what, x.state(what), first[what]);
        check.due("segments", x.segments(), 1);
        check.due("number", x.segment(0, 0), 0);
        check.due("first", x.segment(0, 1), 0);
        check.due("records", x.segment(0, 2), 0);
        check.due("sealed", x.segment(0, 4), 0);
        check.due("errorCode", x.errorCode(), 0);
        check.due("errorPosition", x.errorPosition(), NONE);
        check.due("failure", x.failure(), 0);
        check.due("failurePosition", x.failurePosition(), NONE);
        check.due("truncate", x.truncate(0), 0);
        check.refuses("slowest", "element", () -> x.slowest());
        for (int f = 0; f < 8; f++) check.due("block", x.block(f, 3), NONE);
        // 8 writes are 96 bytes: the ninth opens the second segment of 100.
        for (int i = 0; i < 8; i++) x.write(0, 0, i, NONE);
        check.due("segments of 8 writes", x.segments(), 1);
        x.remove(0, NONE);
        check.due("segments of 102 bytes", x.segments(), 2);
        // the limit of 300: nothing is spilled at 300 bytes
        SharedLog y = new SharedLog();
        y.join(0);
        for (int i = 0; i < 9; i++) y.send(0, i, 20, NONE);
        y.send(0, 9, 12, NONE);
        check.due("bytes", y.state(3), 300);
        check.due("spilled", y.state(9), 0);
        y.begin();
        check.due("spilled beyond the limit", y.state(9), 10);
        SharedLog w = new SharedLog();
        w.join(0);
        for (int i = 0; i < 9; i++) w.send(0, i, 20, NONE);
        w.send(0, 9, 13, NONE);
        check.due("bytes beyond", w.state(3), 301);
        check.due("spilled at 301", w.state(9), 10);
        // room for 20 messages: a 21st is never spilled
        SharedLog z = new SharedLog();
        z.join(0);
        z.begin();
        for (int i = 0; i < 20; i++) z.send(0, i, 20, 0);
        z.commit(0);
        check.due("20 spilled", z.state(9), 20);
        z.send(0, 1, 0, NONE);
        check.due("not 21 spilled", z.state(9), 20);
        z.read(0, 1);
        check.due("again 20 spilled", z.state(9), 20);
    }

    private static void appendAndTruncate() {
        check.part("promises 2 and 3");
        SharedLog x = new SharedLog();
        // "flush;flush;flush;fl"
        int a = 0x666c7573, b = 0x683b666c, c = 0x7573683b, d = 0x666c7573, e = 0x683b666c;
        check.due("append", x.append(a, b, c, d, e), 20);
        check.due("truncate", x.truncate(18), 18);
        check.due("truncate to the same", x.truncate(18), 18);
        check.refuses("truncate(19)", "argument", () -> x.truncate(19));
        check.refuses("truncate(-1)", "argument", () -> x.truncate(-1));
        check.refuses("truncate least", "argument", () -> x.truncate(LEAST));
        check.due("append behind", x.append(0x20202020, 0x20202020, 0x20202020, 0x20202020, 0x20202020), 38);
        check.due("run", x.run(), 3);
        check.due("append to the emptied", x.append(-1, 0, 0, 0, 0), 20);
        check.due("a byte of 255", x.run(), NONE);
        check.due("its position", x.errorPosition(), 0);
        for (int i = 1; i <= 45; i++) check.due("append " + i, x.append(0x20202020, 0x20202020, 0x20202020, 0x20202020, 0x20202020), 20 * i);
        check.refuses("append beyond 900", "state", () -> x.append(0, 0, 0, 0, 0));
        check.due("truncate(881)", x.truncate(881), 881);
        check.refuses("append beyond 900 by one", "state", () -> x.append(0, 0, 0, 0, 0));
        check.due("truncate(880)", x.truncate(880), 880);
        check.due("append to 900", x.append(0x20202020, 0x20202020, 0x20202020, 0x20202020, 0x20202020), 900);
        check.due("run of blanks", x.run(), 0);
    }

    private static void configure() {
        check.part("promise 9");
        SharedLog x = new SharedLog();
        x.join(0);
        x.begin();
        x.write(1, 1, 1, NONE);
        x.send(0, 1, 1, NONE);
        x.read(0, 1);
        x.checkpoint();
        int[][] bad = {{39, 40, 0}, {401, 40, 0}, {40, 39, 0}, {40, 10000, 0}, {40, 40, -1}, {40, 40, 101}, {LEAST, GREATEST, 0}};
        for (int[] s : bad) refuses(x, "configure " + s[0] + " " + s[1] + " " + s[2], "argument", () -> x.configure(s[0], s[1], s[2]));
        x.append(0x666c7573, 0x683b2020, 0x20202020, 0x20202020, 0x20202020);
        check.due("configure", x.configure(40, 40, 0), 6);
        check.due("all as at first", everything(x), everything(new SharedLog()));
        check.refuses("message", "index", () -> x.message(0, 0));
        check.due("the buffer stays", x.run(), 1);
        check.due("configure again", x.configure(400, 9999, 100), 0);
        // only the records in the log count
        SharedLog y = made(40, 40, 0);
        for (int i = 0; i < 4; i++) y.send(0, 0, 20, NONE);
        y.flush();
        check.due("first", y.state(2), 3);
        check.due("records in the log", y.configure(100, 300, 20), 1);
        // error and failure stay
        ScriptTest.say(y, "read 0 1;");
        y.run();
        ScriptTest.say(y, "x");
        y.run();
        y.configure(100, 300, 20);
        check.due("errorCode", y.errorCode(), 1);
        check.due("errorPosition", y.errorPosition(), 0);
        check.due("failure", y.failure(), 1);
        check.due("failurePosition", y.failurePosition(), 0);
        // the capacity
        SharedLog z = made(40, 9999, 0);
        z.send(0, 0, 20, NONE);
        z.send(0, 0, 0, NONE);
        check.due("exactly full", z.segments(), 1);
        check.due("fill", z.fill(0), 1.0f);
        z.begin();
        check.due("next segment", z.segments(), 2);
    }

    private static void beginCommitAbort() {
        check.part("promises 10 to 12");
        SharedLog x = new SharedLog();
        for (int t = 0; t < 4; t++) check.due("begin", x.begin(), t);
        refuses(x, "begin of a fifth", "state", () -> x.begin());
        check.due("type", x.record(2, 0), 0);
        check.due("its own begin", x.record(2, 1), 2);
        check.due("the transaction", x.record(2, 2), 2);
        check.due("no second number", x.record(2, 3), 0);
        check.due("size", x.record(2, 5), 4);
        check.due("no effect", x.record(2, 8), NONE);
        check.due("write", x.write(1, 0, 5, 2), 4);
        check.due("send", x.send(1, 0, 5, 2), 5);
        check.due("write of another", x.write(1, 0, 6, 1), 6);
        check.due("commit", x.commit(2), 2);
        check.due("commit's type", x.record(7, 0), 1);
        check.due("commit's begin", x.record(7, 1), 2);
        check.due("commit's number", x.record(7, 2), 2);
        check.due("commit's effect", x.record(7, 8), NONE);
        check.due("effect", x.record(4, 8), 7);
        check.due("no effect of the other", x.record(6, 8), NONE);
        check.due("abort", x.abort(1), 1);
        check.due("abort's type", x.record(8, 0), 2);
        check.due("abort's begin", x.record(8, 1), 1);
        check.due("abort's number", x.record(8, 2), 1);
        check.due("abort's size", x.record(8, 5), 4);
        check.due("aborted", x.record(6, 8), NONE);
        check.due("block", x.block(1, 0), 5);
        check.due("lowest is free", x.begin(), 1);
        check.due("next lowest", x.begin(), 2);
        check.due("empty commit", x.commit(0), 0);
        check.due("empty abort", x.abort(3), 0);
        for (int t : new int[] {-1, 4, LEAST, GREATEST}) {
            refuses(x, "commit " + t, "index", () -> x.commit(t));
            refuses(x, "abort " + t, "index", () -> x.abort(t));
        }
        refuses(x, "commit not open", "state", () -> x.commit(0));
        refuses(x, "abort not open", "state", () -> x.abort(3));
        SharedLog f = full();
        refuses(f, "begin at 400", "state", () -> f.begin());
        refuses(f, "commit at 400", "state", () -> f.commit(0));
        refuses(f, "abort at 400", "state", () -> f.abort(1));
        refuses(f, "commit 4 at 400", "index", () -> f.commit(4));
        refuses(f, "abort -1 at 400", "index", () -> f.abort(-1));
        // the number 399 is still given
        f.crash(399);
        check.due("the last record", f.begin(), 0);
        check.due("its number", f.transaction(0, 1), 399);
    }

    private static void filesChange() {
        check.part("promises 13 to 15");
        SharedLog x = new SharedLog();
        check.due("write", x.write(7, 3, 9999, NONE), 0);
        check.due("block", x.block(7, 3), 9999);
        check.due("other blocks are 0", x.block(7, 0), 0);
        check.due("write 0", x.write(7, 3, 0, NONE), 1);
        check.due("block 0", x.block(7, 3), 0);
        int[] numbers = {3, NONE, 7, 3, 0, 12};
        for (int what = 0; what < numbers.length; what++) check.due("record " + what, x.record(1, what), numbers[what]);
        x.write(7, 1, 17, NONE);
        check.due("copy", x.copy(7, 0, NONE), 3);
        check.due("copied", x.block(0, 1), 17);
        int[] copied = {5, NONE, 7, 0, 0, 8};
        for (int what = 0; what < copied.length; what++) check.due("record " + what, x.record(3, what), copied[what]);
        x.write(7, 1, 18, NONE);
        check.due("the target is its own", x.block(0, 1), 17);
        check.due("remove", x.remove(7, NONE), 5);
        int[] removed = {4, NONE, 7, 0, 0, 6};
        for (int what = 0; what < removed.length; what++) check.due("record " + what, x.record(5, what), removed[what]);
        check.due("removed", x.block(7, 1), NONE);
        x.write(7, 0, 1, NONE);
        check.due("blocks begin anew", x.block(7, 1), 0);
        x.copy(6, 0, NONE);
        check.due("copy of nothing", x.block(0, 1), NONE);
        x.remove(6, NONE);
        check.due("remove of nothing", x.block(6, 0), NONE);
        // in the order of effects, not of numbers
        SharedLog y = new SharedLog();
        y.begin();
        y.write(0, 0, 1, 0);
        y.copy(0, 1, 0);
        y.remove(2, 0);
        y.write(0, 0, 2, NONE);
        y.write(2, 0, 3, NONE);
        check.due("not yet", y.block(0, 0), 2);
        check.due("not yet copied", y.block(1, 0), NONE);
        check.due("commit", y.commit(0), 3);
        check.due("then", y.block(0, 0), 1);
        check.due("then copied", y.block(1, 0), 1);
        check.due("then removed", y.block(2, 0), NONE);
        wrongFiles();
    }

    private static void wrongFiles() {
        SharedLog x = new SharedLog();
        x.begin();
        for (int bad : new int[] {-1, 8, LEAST, GREATEST}) {
            refuses(x, "write file " + bad, "index", () -> x.write(bad, 0, 0, NONE));
            refuses(x, "remove " + bad, "index", () -> x.remove(bad, NONE));
            refuses(x, "copy from " + bad, "index", () -> x.copy(bad, 0, NONE));
            refuses(x, "copy to " + bad, "index", () -> x.copy(0, bad, NONE));
        }
        for (int bad : new int[] {-1, 4, LEAST, GREATEST}) {
            refuses(x, "write block " + bad, "index", () -> x.write(0, bad, 0, NONE));
        }
        for (int bad : new int[] {-2, 4, LEAST, GREATEST}) {
            refuses(x, "write tx " + bad, "index", () -> x.write(0, 0, -1, bad));
            refuses(x, "remove tx " + bad, "index", () -> x.remove(0, bad));
            refuses(x, "copy tx " + bad, "index", () -> x.copy(0, 0, bad));
        }
        for (int bad : new int[] {-1, 10000, LEAST, GREATEST}) {
            refuses(x, "write value " + bad, "argument", () -> x.write(0, 0, bad, 0));
            refuses(x, "write value in closed " + bad, "argument", () -> x.write(0, 0, bad, 1));
        }
        refuses(x, "copy to itself", "argument", () -> x.copy(3, 3, 1));
        refuses(x, "copy outside to itself", "index", () -> x.copy(8, 8, NONE));
        refuses(x, "write in closed", "state", () -> x.write(0, 0, 0, 1));
        refuses(x, "remove in closed", "state", () -> x.remove(0, 3));
        refuses(x, "copy in closed", "state", () -> x.copy(0, 1, 2));
        SharedLog f = full();
        refuses(f, "write at 400", "state", () -> f.write(0, 0, 0, NONE));
        refuses(f, "remove at 400", "state", () -> f.remove(0, 0));
        refuses(f, "copy at 400", "state", () -> f.copy(0, 1, NONE));
        refuses(f, "write value at 400", "argument", () -> f.write(0, 0, 10000, NONE));
        refuses(f, "copy to itself at 400", "argument", () -> f.copy(1, 1, NONE));
        refuses(f, "remove 8 at 400", "index", () -> f.remove(8, NONE));
    }

    private static void send() {
        check.part("promise 16");
        SharedLog x = new SharedLog();
        check.due("send", x.send(3, 9999, 20, NONE), 0);
        check.due("send least", x.send(0, 0, 0, NONE), 1);
        int[] numbers = {6, NONE, 3, 9999, 20, 30};
        for (int what = 0; what < numbers.length; what++) check.due("record " + what, x.record(0, what), numbers[what]);
        check.due("least size", x.record(1, 5), 10);
        check.due("visible", x.visible(3, 0), 0);
        x.begin();
        check.due("in a transaction", x.send(3, 1, 1, 0), 3);
        check.due("its begin", x.record(3, 1), 2);
        check.refuses("not visible", "element", () -> x.visible(3, 1));
        for (int bad : new int[] {-1, 4, LEAST, GREATEST}) refuses(x, "topic " + bad, "index", () -> x.send(bad, 0, 0, NONE));
        for (int bad : new int[] {-2, 4, LEAST, GREATEST}) refuses(x, "tx " + bad, "index", () -> x.send(0, -1, 0, bad));
        for (int bad : new int[] {-1, 10000, LEAST, GREATEST}) refuses(x, "key " + bad, "argument", () -> x.send(0, bad, 0, 1));
        for (int bad : new int[] {-1, 21, LEAST, GREATEST}) refuses(x, "length " + bad, "argument", () -> x.send(0, 0, bad, 1));
        refuses(x, "in closed", "state", () -> x.send(0, 0, 0, 1));
        SharedLog f = full();
        refuses(f, "send at 400", "state", () -> f.send(0, 0, 0, NONE));
        refuses(f, "length at 400", "argument", () -> f.send(0, 0, 21, NONE));
    }

    private static void join() {
        check.part("promise 17");
        SharedLog x = new SharedLog();
        x.send(2, 0, 0, NONE);
        x.send(2, 0, 0, NONE);
        x.damage(1);
        check.due("join", x.join(2), 0);
        int[] numbers = {7, NONE, 0, 2, 2, 8};
        for (int what = 0; what < numbers.length; what++) check.due("record " + what, x.record(2, what), numbers[what]);
        check.due("its effect", x.record(2, 8), 2);
        check.due("flushed", x.state(1), 3);
        check.due("sound again", x.record(1, 9), 0);
        check.due("position", x.consumer(0, 1), 2);
        check.due("topic", x.consumer(0, 0), 2);
        check.due("unread", x.consumer(0, 2), 0);
        for (int bad : new int[] {-1, 4, LEAST, GREATEST}) refuses(x, "topic " + bad, "index", () -> x.join(bad));
        for (int i = 1; i < 6; i++) check.due("join", x.join(i % 4), i);
        refuses(x, "a seventh", "state", () -> x.join(0));
        refuses(x, "a seventh of topic 4", "index", () -> x.join(4));
        SharedLog f = full();
        refuses(f, "join at 400", "state", () -> f.join(0));
        refuses(f, "join 4 at 400", "index", () -> f.join(4));
    }

    private static void readAndMessage() {
        check.part("promises 18 and 19");
        SharedLog x = made(400, 9999, 100);
        check.refuses("message before", "index", () -> x.message(0, 0));
        x.join(1);
        for (int i = 0; i < 60; i++) x.send(i % 2, i, i % 21, NONE);
        check.due("read", x.read(0, 2), 2);
        check.due("number", x.message(0, 0), 2);
        check.due("key", x.message(0, 1), 1);
        check.due("length", x.message(1, 2), 3);
        int[] numbers = {7, NONE, 0, 2, 1, 8};
        for (int what = 0; what < numbers.length; what++) check.due("record " + what, x.record(61, what), numbers[what]);
        check.due("flushed", x.state(1), 62);
        check.refuses("message 2", "index", () -> x.message(2, 0));
        check.refuses("message -1", "index", () -> x.message(-1, 0));
        check.refuses("message 2 of 3", "index", () -> x.message(2, 3));
        for (int bad : new int[] {-1, 3, LEAST, GREATEST}) check.refuses("what " + bad, "argument", () -> x.message(0, bad));
        for (int bad : new int[] {-1, 1, LEAST, GREATEST}) refuses(x, "consumer " + bad, "index", () -> x.read(bad, 0));
        for (int bad : new int[] {-1, 0, 51, LEAST, GREATEST}) refuses(x, "n " + bad, "argument", () -> x.read(0, bad));
        check.due("the rest", x.read(0, 50), 28);
        check.due("the last one", x.message(27, 0), 60);
        x.write(0, 0, 0, NONE);
        check.due("nothing", x.read(0, 50), 0);
        check.due("nothing appended", x.state(0), 64);
        check.due("nothing flushed", x.state(1), 63);
        check.refuses("message of nothing", "index", () -> x.message(0, 0));
        for (int i = 0; i < 60; i++) x.send(1, i, 0, NONE);
        check.due("at most 50", x.read(0, 50), 50);
        check.due("the fiftieth", x.message(49, 1), 49);
        check.due("position", x.consumer(0, 1), 80);
        SharedLog f = full();
        refuses(f, "read at 400", "state", () -> f.read(0, 1));
        refuses(f, "read 51 at 400", "argument", () -> f.read(0, 51));
        refuses(f, "read of 1 at 400", "index", () -> f.read(1, 51));
        readInOrder();
    }

    /** Messages come in the order of effects, and those of the log that are gone still have contents. */
    private static void readInOrder() {
        SharedLog x = new SharedLog();
        x.join(0);
        x.begin();
        x.send(0, 10, 1, 0);
        x.send(0, 11, 2, 0);
        x.send(0, 12, 3, NONE);
        x.commit(0);
        x.send(0, 13, 4, NONE);
        check.due("hold", x.consumer(0, 4), 2);
        check.due("lengths", x.consumer(0, 5), 10);
        check.due("read", x.read(0, 9), 4);
        int[] keys = {12, 10, 11, 13};
        for (int i = 0; i < 4; i++) check.due("key " + i, x.message(i, 1), keys[i]);
        x.crash(x.state(0));
        check.due("message after a crash", x.message(3, 1), 13);
    }

    private static void flushAndCheckpoint() {
        check.part("promises 20 and 21");
        SharedLog x = new SharedLog();
        check.due("flush of nothing", x.flush(), 0);
        x.write(0, 0, 1, NONE);
        x.write(0, 0, 2, NONE);
        x.damage(1);
        check.due("flush", x.flush(), 2);
        check.due("durable", x.state(1), 2);
        check.due("sound", x.state(10), 2);
        check.due("again", x.flush(), 0);
        x.join(0);
        x.send(0, 0, 0, NONE);
        x.write(0, 1, 3, NONE);
        x.damage(4);
        check.due("checkpoint", x.checkpoint(), 5);
        int[] numbers = {8, NONE, 0, 0, 0, 6};
        for (int what = 0; what < numbers.length; what++) check.due("record " + what, x.record(5, what), numbers[what]);
        check.due("no effect", x.record(5, 8), NONE);
        check.due("durable", x.state(1), 6);
        check.due("sound again", x.record(4, 9), 0);
        check.due("position", x.state(6), 5);
        check.due("kept", x.blockAt(5, 0, 1), 3);
        check.due("kept position", x.positionAt(5, 0), 0);
        check.refuses("before it", "argument", () -> x.blockAt(4, 0, 1));
        x.write(0, 1, 4, NONE);
        check.due("still kept", x.blockAt(6, 0, 1), 3);
        check.due("changed", x.blockAt(7, 0, 1), 4);
        x.read(0, 1);
        check.due("position before", x.positionAt(7, 0), 0);
        check.due("position after", x.positionAt(8, 0), 1);
        check.due("a second one", x.checkpoint(), 8);
        check.due("its position", x.positionAt(8, 0), 1);
        SharedLog f = full();
        refuses(f, "checkpoint at 400", "state", () -> f.checkpoint());
        check.due("flush at 400", f.flush(), 399);
        SharedLog y = new SharedLog();
        y.checkpoint();
        check.due("checkpoint 0", y.state(6), 0);
        y.crash(1);
        check.due("it stays", y.state(6), 0);
    }

    private static void damage() {
        check.part("promise 22");
        SharedLog x = made(40, 40, 0);
        for (int i = 0; i < 3; i++) x.send(0, 0, 20, NONE);
        x.flush();
        for (int i = 0; i < 3; i++) x.send(0, 0, 20, NONE);
        check.due("first", x.state(2), 3);
        for (int bad : new int[] {-1, 2, 6, LEAST, GREATEST}) refuses(x, "damage " + bad, "index", () -> x.damage(bad));
        check.due("damage", x.damage(5), 1);
        check.due("first damaged", x.state(10), 5);
        check.due("damage another", x.damage(3), 2);
        check.due("damage again", x.damage(3), 2);
        check.due("first damaged now", x.state(10), 3);
        int sum = checksum(3, 6, -1, 0, 0, 20, 30);
        check.due("checksum", x.record(3, 6), sum ^ 1);
        x.flush();
        check.due("sound checksum", x.record(5, 6), checksum(5, 6, -1, 0, 0, 20, 30));
        refuses(x, "durable", "state", () -> x.damage(5));
        SharedLog y = new SharedLog();
        refuses(y, "no record", "index", () -> y.damage(0));
        y.write(0, 0, 0, NONE);
        y.flush();
        y.send(0, 0, 0, NONE);
        refuses(y, "durable end", "state", () -> y.damage(0));
        check.due("behind the end", y.damage(1), 1);
    }

    private static int checksum(int... values) {
        short c = 7;
        for (int v : values) c = (short) (31 * c + v);
        return c;
    }

    private static void crash() {
        check.part("promise 23");
        SharedLog x = new SharedLog();
        x.write(0, 0, 1, NONE);
        x.begin();
        x.write(0, 0, 2, 0);
        x.flush();
        x.write(0, 0, 3, 0);
        x.begin();
        x.commit(0);
        x.send(1, 1, 1, NONE);
        for (int bad : new int[] {-1, 2, 8, LEAST, GREATEST}) refuses(x, "crash " + bad, "argument", () -> x.crash(bad));
        check.due("committed", x.block(0, 0), 3);
        check.due("nothing lost", x.crash(7), 0);
        check.due("still committed", x.block(0, 0), 3);
        check.due("visible", x.visibleAt(7, 1), 1);
        check.due("none open", x.state(7), 0);
        check.due("not open", x.transaction(1, 0), 0);
        check.due("the durable end stays", x.state(1), 3);
        check.due("the commit lost", x.crash(5), 2);
        check.due("next", x.state(0), 5);
        check.due("bytes", x.state(3), 12 + 4 + 12 + 12 + 4);
        check.due("not committed", x.block(0, 0), 1);
        check.due("not visible", x.visibleAt(5, 1), 0);
        check.due("never effective", x.record(3, 8), NONE);
        check.due("begin anew", x.begin(), 0);
        check.due("commit of nothing", x.commit(0), 0);
        check.due("never", x.block(0, 0), 1);
        check.due("number given again", x.write(0, 0, 9, NONE), 7);
        x.damage(6);
        x.damage(7);
        check.due("cut at the first damaged", x.crash(8), 2);
        check.due("no damaged one is left", x.state(10), 6);
        check.due("a new record is sound", x.record(x.write(0, 0, 1, NONE), 9), 0);
        x.damage(6);
        check.due("prefix before the damaged", x.crash(4), 3);
        check.due("next", x.state(0), 4);
        crashOfSegments();
        crashOfSpilled();
    }

    private static void crashOfSegments() {
        SharedLog x = made(40, 9999, 0);
        for (int i = 0; i < 4; i++) {
            x.send(0, 0, 20, NONE);
            x.send(0, 0, 0, NONE);
        }
        check.due("segments", x.segments(), 4);
        check.due("cut inside a segment", x.crash(5), 3);
        check.due("segments left", x.segments(), 3);
        check.due("records", x.segment(2, 2), 1);
        check.due("bytes", x.segment(2, 3), 30);
        check.due("open", x.segment(2, 4), 0);
        check.due("cut between segments", x.crash(4), 1);
        check.due("segments left then", x.segments(), 2);
        check.due("the last one is open", x.segment(1, 4), 0);
        check.due("full", x.fill(1), 1.0f);
        x.begin();
        check.due("the number is given again", x.segment(2, 0), 2);
        check.due("its first", x.segment(2, 1), 4);
        check.due("cut at 0", x.crash(0), 5);
        check.due("one is left", x.segments(), 1);
        check.due("its number", x.segment(0, 0), 0);
        check.due("bytes of all", x.state(3), 0);
        // trimmed up to an open segment that is lost as a whole
        SharedLog y = made(40, 9999, 0);
        for (int i = 0; i < 3; i++) y.send(0, 0, 20, NONE);
        y.flush();
        y.crash(3);
        for (int i = 0; i < 3; i++) y.send(0, 0, 20, NONE);
        check.due("trimmed", y.state(5), 3);
        check.due("first", y.state(2), 3);
        check.due("all in the log lost", y.crash(3), 3);
        check.due("segments", y.segments(), 1);
        check.due("number of the first removed", y.segment(0, 0), 3);
        check.due("opened at the cut", y.segment(0, 1), 3);
        check.due("no records", y.segment(0, 2), 0);
        check.due("first number", y.state(2), 3);
        check.due("trimmed so far", y.state(5), 3);
    }

    private static void crashOfSpilled() {
        SharedLog x = made(40, 40, 5);
        x.join(0);
        x.send(0, 1, 20, NONE);
        x.send(0, 2, 20, NONE);
        x.send(0, 3, 20, NONE);
        check.due("spilled", x.state(9), 3);
        check.due("lost", x.crash(2), 2);
        check.due("not spilled any more", x.state(9), 1);
        check.due("unread", x.consumer(0, 2), 1);
        // a message that takes the lost one's place in the topic is not spilled
        SharedLog z = made(400, 60, 5);
        z.join(0);
        z.send(0, 1, 20, NONE);
        z.send(0, 2, 20, NONE);
        check.due("both spilled", z.state(9), 2);
        z.crash(2);
        z.send(0, 3, 0, NONE);
        check.due("unread in its place", z.consumer(0, 2), 2);
        check.due("only the first is spilled", z.consumer(0, 3), 1);
        // the log is not trimmed by a crash
        SharedLog y = made(40, 9999, 0);
        y.send(0, 0, 20, NONE);
        y.begin();
        y.send(0, 0, 20, NONE);
        y.send(0, 0, 20, NONE);
        y.flush();
        check.due("held by the transaction", y.state(2), 0);
        y.crash(4);
        check.due("the hold", y.state(4), 4);
        check.due("not trimmed", y.state(2), 0);
        y.damage(y.send(1, 0, 0, NONE));
        check.due("trimmed by the next operation", y.state(2), 3);
    }

    private static void state() {
        check.part("promise 24");
        SharedLog x = made(40, 60, 1);
        x.join(0);
        x.begin();
        x.begin();
        x.send(0, 5, 20, NONE);
        x.send(1, 5, 20, NONE);
        x.damage(4);
        int[] numbers = {5, 1, 0, 8 + 4 + 4 + 30 + 30, 0, 0, 0, 2, 1, 1, 4};
        for (int what = 0; what < numbers.length; what++) check.due("state " + what, x.state(what), numbers[what]);
        for (int bad : new int[] {-1, 11, LEAST, GREATEST}) refuses(x, "state " + bad, "argument", () -> x.state(bad));
        x.commit(0);
        x.commit(1);
        x.checkpoint();
        int[] then = {8, 8, 7, 6, 8, 3, 7, 0, 1, 1, 8};
        for (int what = 0; what < then.length; what++) check.due("then state " + what, x.state(what), then[what]);
    }

    private static void record() {
        check.part("promise 25");
        SharedLog x = made(40, 9999, 0);
        x.begin();
        x.write(7, 2, 1234, 0);
        x.send(3, 77, 5, 0);
        x.commit(0);
        x.abort(x.begin());
        x.join(3);
        x.checkpoint();
        int[][] due = {
            {3, 0, 7, 2, 1234, 12, checksum(1, 3, 0, 7, 2, 1234, 12), 0, 3, 0},
            {6, 0, 3, 77, 5, 15, checksum(2, 6, 0, 3, 77, 5, 15), 0, 3, 0},
            {1, 0, 0, 0, 0, 4, checksum(3, 1, 0, 0, 0, 0, 4), 0, NONE, 0},
            {0, 4, 0, 0, 0, 4, checksum(4, 0, 4, 0, 0, 0, 4), 0, NONE, 0},
            {2, 4, 0, 0, 0, 4, checksum(5, 2, 4, 0, 0, 0, 4), 1, NONE, 0},
            {7, NONE, 0, 1, 3, 8, checksum(6, 7, -1, 0, 1, 3, 8), 1, 6, 0},
            {8, NONE, 0, 0, 0, 6, checksum(7, 8, -1, 0, 0, 0, 6), 1, NONE, 0}};
        SharedLog y = made(40, 9999, 0);
        y.begin();
        y.write(7, 2, 1234, 0);
        y.send(3, 77, 5, 0);
        y.commit(0);
        y.abort(y.begin());
        y.join(3);
        for (int n = 1; n <= 6; n++) {
            for (int what = 0; what < 10; what++) check.due("record " + n + " " + what, y.record(n, what), due[n - 1][what]);
        }
        for (int what = 0; what < 10; what++) check.due("record 7 " + what, x.record(7, what), due[6][what]);
        check.due("trimmed", x.state(2), 5);
        check.refuses("a trimmed one", "index", () -> x.record(4, 0));
        check.refuses("of the next number", "index", () -> x.record(8, 10));
        check.refuses("-1", "index", () -> x.record(-1, 0));
        check.refuses("least", "index", () -> x.record(LEAST, 0));
        for (int bad : new int[] {-1, 10, LEAST, GREATEST}) check.refuses("what " + bad, "argument", () -> x.record(7, bad));
        // reckoned apart: 7, 217, 6727, 11929, -23417, -5031, -24889, 14877
        SharedLog z = new SharedLog();
        z.begin();
        check.due("a checksum by hand", z.record(0, 6), 14877);
    }

    private static void segmentsAndFill() {
        check.part("promises 26 to 28");
        SharedLog x = made(50, 9999, 0);
        check.due("segments", x.segments(), 1);
        check.due("fill", x.fill(0), 0.0f);
        x.send(0, 0, 20, NONE);
        x.write(0, 0, 0, NONE);
        x.copy(0, 1, NONE);
        check.due("exactly 50", x.segments(), 1);
        check.due("full", x.fill(0), 1.0f);
        x.send(0, 0, 1, NONE);
        int[][] due = {{0, 0, 3, 50, 1}, {1, 3, 1, 11, 0}};
        for (int s = 0; s < 2; s++) for (int what = 0; what < 5; what++) check.due("segment " + s + " " + what, x.segment(s, what), due[s][what]);
        check.due("fill 1", x.fill(1), 11f / 50f);
        for (int bad : new int[] {-1, 2, LEAST, GREATEST}) {
            check.refuses("segment " + bad, "index", () -> x.segment(bad, 5));
            check.refuses("fill " + bad, "index", () -> x.fill(bad));
        }
        for (int bad : new int[] {-1, 5, LEAST, GREATEST}) check.refuses("what " + bad, "argument", () -> x.segment(1, bad));
        x.checkpoint();
        check.due("trimmed", x.segments(), 1);
        check.due("its number", x.segment(0, 0), 1);
        check.due("its first", x.segment(0, 1), 3);
        check.due("its share", x.fill(0), 17f / 50f);
        check.refuses("segment 1", "index", () -> x.segment(1, 0));
    }

    private static void order() {
        check.part("promise 29");
        SharedLog x = made(40, 9999, 0);
        x.begin();
        x.begin();
        x.write(0, 0, 1, 1);
        x.send(0, 0, 0, 0);
        x.join(0);
        x.write(0, 1, 1, 0);
        x.commit(1);
        x.send(0, 0, 0, NONE);
        x.commit(0);
        int[] order = {4, 2, 7, 3, 5};
        for (int i = 0; i < order.length; i++) {
            int place = i;
            check.answers("order 9 " + i, order[i], () -> x.order(9, place));
        }
        check.refuses("place 5", "element", () -> x.order(9, 5));
        check.refuses("place -1", "element", () -> x.order(9, -1));
        check.answers("prefix 8", 7, () -> x.order(8, 2));
        check.refuses("prefix 8 has three", "element", () -> x.order(8, 3));
        check.refuses("prefix 4 has none", "element", () -> x.order(4, 0));
        for (int bad : new int[] {-1, 10, LEAST, GREATEST}) check.refuses("prefix " + bad, "argument", () -> x.order(bad, -1));
        x.abort(x.begin());
        check.refuses("no more", "element", () -> x.order(11, 5));
        // what is not in the log any more has no place; what is before the checkpoint has one
        SharedLog y = made(40, 9999, 0);
        y.send(0, 0, 20, NONE);
        y.write(0, 0, 1, NONE);
        y.write(0, 0, 2, NONE);
        y.checkpoint();
        check.due("first", y.state(2), 1);
        check.answers("first place", 1, () -> y.order(3, 0));
        check.answers("second place", 2, () -> y.order(3, 1));
        check.refuses("third place", "element", () -> y.order(4, 2));
        check.refuses("before the checkpoint", "argument", () -> y.order(2, 0));
    }

    private static void transaction() {
        check.part("promise 30");
        SharedLog x = new SharedLog();
        x.write(0, 0, 0, NONE);
        x.begin();
        x.begin();
        x.write(0, 0, 0, 1);
        x.send(0, 0, 0, 1);
        x.remove(0, 0);
        x.copy(0, 1, 1);
        int[][] due = {{1, 1, 1}, {1, 2, 3}, {0, NONE, NONE}, {0, NONE, NONE}};
        for (int t = 0; t < 4; t++) for (int what = 0; what < 3; what++) check.due("transaction " + t + " " + what, x.transaction(t, what), due[t][what]);
        for (int bad : new int[] {-1, 4, LEAST, GREATEST}) check.refuses("tx " + bad, "index", () -> x.transaction(bad, 3));
        for (int bad : new int[] {-1, 3, LEAST, GREATEST}) check.refuses("what " + bad, "argument", () -> x.transaction(2, bad));
        x.commit(1);
        check.due("committed", x.transaction(1, 0), 0);
        check.due("no records", x.transaction(1, 2), NONE);
        x.begin();
        check.due("again from 0", x.transaction(1, 2), 0);
    }

    private static void views() {
        check.part("promises 31 to 35");
        SharedLog x = new SharedLog();
        x.begin();
        x.write(2, 1, 11, 0);
        x.send(1, 0, 0, 0);
        x.write(2, 0, 12, NONE);
        x.join(1);
        x.commit(0);
        x.copy(2, 3, NONE);
        x.remove(2, NONE);
        x.send(1, 0, 0, NONE);
        x.read(0, 1);
        int[][] at = {{0, NONE, NONE}, {3, NONE, NONE}, {4, 0, NONE}, {5, 0, NONE}, {6, 11, NONE}, {7, 11, 11}, {8, NONE, 11}, {10, NONE, 11}};
        for (int[] row : at) {
            check.due("blockAt " + row[0], x.blockAt(row[0], 2, 1), row[1]);
            check.due("blockAt " + row[0] + " of the copy", x.blockAt(row[0], 3, 1), row[2]);
        }
        check.due("block", x.block(3, 0), 12);
        check.due("block of none", x.block(2, 0), NONE);
        int[][] visible = {{0, 0}, {5, 0}, {6, 1}, {8, 1}, {9, 2}, {10, 2}};
        for (int[] row : visible) check.due("visibleAt " + row[0], x.visibleAt(row[0], 1), row[1]);
        check.due("of another topic", x.visibleAt(10, 0), 0);
        int[][] position = {{0, NONE}, {4, NONE}, {5, 0}, {9, 0}, {10, 1}};
        for (int[] row : position) check.due("positionAt " + row[0], x.positionAt(row[0], 0), row[1]);
        check.answers("visible", 2, () -> x.visible(1, 0));
        check.answers("visible 1", 8, () -> x.visible(1, 1));
        check.refuses("visible 2", "element", () -> x.visible(1, 2));
        check.refuses("visible -1", "element", () -> x.visible(1, -1));
        check.refuses("visible of none", "element", () -> x.visible(0, 0));
        wrongViews(x);
        checkpointedViews();
    }

    private static void wrongViews(SharedLog x) {
        for (int bad : new int[] {-1, 8, LEAST, GREATEST}) {
            check.refuses("file " + bad, "index", () -> x.block(bad, 0));
            check.refuses("file at " + bad, "index", () -> x.blockAt(-1, bad, 0));
        }
        for (int bad : new int[] {-1, 4, LEAST, GREATEST}) {
            check.refuses("block " + bad, "index", () -> x.block(0, bad));
            check.refuses("block at " + bad, "index", () -> x.blockAt(-1, 0, bad));
            check.refuses("visible at " + bad, "index", () -> x.visibleAt(-1, bad));
            check.refuses("visible topic " + bad, "index", () -> x.visible(bad, -1));
        }
        for (int bad : new int[] {-1, 1, LEAST, GREATEST}) check.refuses("consumer " + bad, "index", () -> x.positionAt(-1, bad));
        for (int bad : new int[] {-1, 11, LEAST, GREATEST}) {
            check.refuses("blockAt prefix " + bad, "argument", () -> x.blockAt(bad, 0, 0));
            check.refuses("visibleAt prefix " + bad, "argument", () -> x.visibleAt(bad, 0));
            check.refuses("positionAt prefix " + bad, "argument", () -> x.positionAt(bad, 0));
        }
    }

    private static void checkpointedViews() {
        SharedLog x = made(40, 9999, 0);
        x.join(0);
        x.write(0, 0, 1, NONE);
        x.send(0, 0, 20, NONE);
        x.begin();
        x.write(0, 1, 2, 0);
        x.checkpoint();
        x.join(0);
        x.commit(0);
        check.due("kept", x.blockAt(5, 0, 0), 1);
        check.due("not yet", x.blockAt(7, 0, 1), 0);
        check.due("then", x.blockAt(8, 0, 1), 2);
        check.due("kept position", x.positionAt(5, 0), 0);
        check.due("not joined by then", x.positionAt(6, 1), NONE);
        check.due("joined", x.positionAt(7, 1), 1);
        check.refuses("blockAt before", "argument", () -> x.blockAt(4, 0, 0));
        check.refuses("visibleAt before", "argument", () -> x.visibleAt(4, 0));
        check.refuses("positionAt before", "argument", () -> x.positionAt(4, 0));
        x.read(0, 1);
        x.checkpoint();
        check.due("trimmed", x.state(2) > 2, true);
        check.due("counted though trimmed", x.visibleAt(x.state(0), 0), 1);
        check.refuses("not in the log", "element", () -> x.visible(0, 0));
        x.write(0, 0, 3, NONE);
        x.crash(x.state(0));
        check.due("recovered", x.block(0, 1), 2);
        check.due("recovered too", x.block(0, 0), 3);
        check.due("position", x.consumer(0, 1), 1);
    }

    private static void consumers() {
        check.part("promises 36 to 39");
        SharedLog x = made(40, 9999, 0);
        check.refuses("slowest", "element", () -> x.slowest());
        check.due("holder of nothing", x.holder(), 0);
        x.join(1);
        check.due("lag without messages", x.lag(0), 0.0f);
        x.join(2);
        x.send(1, 0, 7, NONE);
        x.send(1, 0, 8, NONE);
        x.send(1, 0, 9, NONE);
        x.send(2, 0, 10, NONE);
        x.join(1);
        int[][] due = {{1, 0, 3, 0, 2, 24}, {2, 0, 1, 0, 5, 10}, {1, 3, 0, 0, 7, 0}};
        for (int c = 0; c < 3; c++) for (int what = 0; what < 6; what++) check.due("consumer " + c + " " + what, x.consumer(c, what), due[c][what]);
        check.due("lag", x.lag(0), 1.0f);
        check.due("slowest", x.slowest(), 0);
        x.read(0, 1);
        check.due("lag of two thirds", x.lag(0), 2f / 3f);
        check.due("lag of none", x.lag(2), 0.0f);
        check.due("unread", x.consumer(0, 2), 2);
        x.read(0, 2);
        check.due("slowest then", x.slowest(), 1);
        x.read(1, 1);
        check.due("the lowest wins a tie", x.slowest(), 0);
        for (int bad : new int[] {-1, 3, LEAST, GREATEST}) {
            check.refuses("consumer " + bad, "index", () -> x.consumer(bad, 6));
            check.refuses("lag " + bad, "index", () -> x.lag(bad));
            check.refuses("wouldFree " + bad, "index", () -> x.wouldFree(bad));
        }
        for (int bad : new int[] {-1, 6, LEAST, GREATEST}) check.refuses("what " + bad, "argument", () -> x.consumer(0, bad));
        holder();
    }

    private static void holder() {
        SharedLog x = made(400, 9999, 0);
        x.begin();
        check.due("the durable end wins a tie", x.holder(), 0);
        x.flush();
        check.due("a transaction", x.holder(), 1);
        x.commit(0);
        x.flush();
        check.due("all durable", x.holder(), 0);
        x.begin();
        x.write(0, 0, 0, NONE);
        x.flush();
        check.due("the transaction before the record", x.holder(), 1);
        x.commit(0);
        check.due("a record", x.holder(), 2);
        check.due("its hold", x.state(4), 3);
        x.checkpoint();
        check.due("all durable again", x.holder(), 0);
        x.join(0);
        x.checkpoint();
        x.send(0, 0, 0, NONE);
        check.due("not durable", x.holder(), 0);
        x.flush();
        check.due("a consumer", x.holder(), 3);
        check.due("its hold", x.state(4), x.consumer(0, 4));
        x.join(0);
        check.due("still the consumer", x.holder(), 3);
        x.read(0, 1);
        check.due("an offset", x.holder(), 2);
        // a record of a transaction is needed while its commit is behind the checkpoint
        SharedLog y = made(400, 9999, 0);
        y.begin();
        y.write(0, 0, 1, 0);
        y.checkpoint();
        y.commit(0);
        y.flush();
        check.due("held", y.state(4), 1);
        check.due("by the record", y.holder(), 2);
    }

    private static void wouldFree() {
        check.part("promise 40");
        SharedLog x = made(40, 9999, 0);
        x.join(0);
        x.join(1);
        x.checkpoint();
        x.send(0, 0, 20, NONE);
        x.send(0, 0, 20, NONE);
        x.send(1, 0, 20, NONE);
        x.send(1, 0, 20, NONE);
        check.due("nothing is durable", x.wouldFree(0), 0);
        x.flush();
        check.due("first", x.state(2), 3);
        check.due("up to the other's hold", x.wouldFree(0), 60);
        check.due("nothing before the first", x.wouldFree(1), 0);
        check.due("nothing is changed", x.consumer(0, 2), 2);
        check.due("bytes", x.state(3), 120);
        x.read(0, 2);
        check.due("the open one stays", x.wouldFree(1), 30);
        check.due("the sealed one", x.segment(0, 3), 30);
        // it tells what a trimming would remove, though none has been since a crash
        SharedLog y = made(40, 9999, 0);
        y.join(0);
        y.checkpoint();
        y.begin();
        y.send(0, 0, 20, NONE);
        y.send(1, 0, 20, NONE);
        y.flush();
        check.due("held by the transaction", y.wouldFree(0), 0);
        y.crash(5);
        check.due("not held any more", y.wouldFree(0), 8 + 6 + 4 + 30);
    }

    /** Sections 4 and 5: what is spilled when, and what is trimmed then. */
    private static void spilling() {
        check.part("sections 4 and 5");
        SharedLog x = made(40, 100, 3);
        x.join(0);
        x.join(1);
        x.send(1, 0, 20, NONE);
        x.send(0, 0, 20, NONE);
        check.due("below the limit", x.state(9), 0);
        x.send(0, 0, 20, NONE);
        check.due("bytes beyond the limit", x.state(3), 16 + 90);
        // consumer 1 has the least hold; then consumer 0 with two messages still fits in
        check.due("spilled of 1", x.consumer(1, 3), 1);
        check.due("spilled of 0", x.consumer(0, 3), 2);
        check.due("the offsets hold the log", x.state(2), 0);
        x.checkpoint();
        check.due("trimmed", x.state(2), 4);
        check.due("trimmed segments", x.state(5), 3);
        check.due("still unread", x.consumer(0, 2), 2);
        check.due("lengths still told", x.consumer(0, 5), 40);
        for (int i = 0; i < 4; i++) x.send(0, 0, 20, NONE);
        check.due("bytes again", x.state(3), 120);
        check.due("no room for more", x.state(9), 3);
        check.due("hold", x.consumer(0, 4), 6);
        check.due("read", x.read(0, 1), 1);
        check.due("not spilled any more", x.state(9), 2);
        check.due("the spilled one, not in the log", x.message(0, 0), 3);
        check.due("the rest", x.read(0, 3), 3);
        check.due("one of the other", x.state(9), 1);
        check.due("none of its own", x.consumer(0, 3), 0);
        check.due("trimmed by reading", x.state(2), 8);
        check.due("bytes then", x.state(3), 76);
        x.write(0, 0, 0, NONE);
        x.write(0, 0, 0, NONE);
        check.due("at the limit", x.state(3), 100);
        check.due("not yet", x.state(9), 1);
        x.remove(0, NONE);
        check.due("spilled", x.state(9), 3);
        check.due("and trimmed at once", x.state(2), 9);
        check.due("bytes after that", x.state(3), 76);
        // the first that does not fit ends it, though another would fit
        SharedLog y = made(40, 60, 1);
        y.join(0);
        y.join(1);
        y.begin();
        y.send(0, 0, 20, 0);
        y.send(0, 0, 20, 0);
        y.send(1, 0, 20, 0);
        y.commit(0);
        check.due("nothing is spilled", y.state(9), 0);
        // on a tie the lowest number; the same message counts for each consumer
        SharedLog z = made(40, 60, 1);
        z.join(0);
        z.join(0);
        z.send(0, 0, 20, NONE);
        z.send(0, 0, 20, NONE);
        check.due("two do not fit", z.state(9), 0);
        SharedLog w = made(60, 60, 1);
        w.join(0);
        w.join(0);
        w.send(0, 0, 20, NONE);
        w.write(0, 0, 0, NONE);
        check.due("at the limit", w.state(9), 0);
        w.write(0, 0, 0, NONE);
        check.due("the lowest is spilled", w.consumer(0, 3), 1);
        check.due("the other is not", w.consumer(1, 3), 0);
        check.due("its hold", w.consumer(1, 4), 2);
        spillingOfMany();
        // a read of nothing trims, too
        SharedLog v = made(40, 9999, 0);
        v.join(3);
        v.checkpoint();
        v.begin();
        v.write(0, 0, 0, 0);
        v.write(0, 0, 0, 0);
        v.flush();
        v.crash(5);
        check.due("before", v.state(2), 0);
        v.read(0, 1);
        check.due("after", v.state(2), 4);
    }

    private static void spillingOfMany() {
        // one operation may spill for all six consumers
        SharedLog x = made(400, 60, 100);
        for (int c = 0; c < 6; c++) x.join(0);
        check.due("nothing yet", x.state(9), 0);
        x.send(0, 0, 20, NONE);
        check.due("bytes", x.state(3), 48 + 30);
        for (int c = 0; c < 6; c++) check.due("spilled of " + c, x.consumer(c, 3), 1);
        // the trimming after a spill heeds the holds of the consumers that are left
        SharedLog y = made(40, 100, 1);
        y.join(0);
        y.join(1);
        y.checkpoint();
        y.send(1, 0, 20, NONE);
        y.send(0, 0, 20, NONE);
        y.send(0, 0, 20, NONE);
        y.flush();
        check.due("at first", y.state(2), 3);
        y.send(2, 0, 20, NONE);
        check.due("the least hold is spilled", y.consumer(1, 3), 1);
        check.due("the other's messages stay", y.state(2), 4);
        check.due("not spilled", y.consumer(0, 3), 0);
        // each record in a segment of its own
        SharedLog z = made(40, 9999, 0);
        z.begin();
        while (z.state(0) < 400) z.send(0, 0, 20, 0);
        check.due("segments", z.segments(), 399);
        check.due("last number", z.segment(398, 0), 398);
        check.due("last first", z.segment(398, 1), 399);
        check.due("last bytes", z.segment(398, 3), 30);
        SharedLog w = made(40, 9999, 0);
        w.send(0, 0, 20, NONE);
        for (int i = 0; i < 399; i++) w.send(0, 0, 20, NONE);
        check.due("segments of one record", w.segments(), 400);
        check.due("the last one's first", w.segment(399, 1), 399);
        check.due("the last one's bytes", w.segment(399, 3), 30);
        check.due("bytes of all", w.state(3), 12000);
        check.due("flush", w.flush(), 400);
        check.due("all but the open one are trimmed", w.state(5), 399);
    }

    public static void main(String[] args) {
        newObject();
        appendAndTruncate();
        configure();
        beginCommitAbort();
        filesChange();
        send();
        join();
        readAndMessage();
        flushAndCheckpoint();
        damage();
        crash();
        state();
        record();
        segmentsAndFill();
        order();
        transaction();
        views();
        consumers();
        wouldFree();
        spilling();
        check.end();
    }
}
