/** Promises 4 to 8 and section 7: scripts, their errors and their failures. */
public final class ScriptTest {
    private static final int NONE = SharedLog.NONE;
    private static final Check check = new Check();

    /** Puts a text into the buffer. */
    static void say(SharedLog x, String text) {
        int before = x.truncate(length(x));
        StringBuilder padded = new StringBuilder(text);
        while (padded.length() % 20 != 0) padded.append(' ');
        for (int i = 0; i < padded.length(); i += 20) {
            int[] words = new int[5];
            for (int k = 0; k < 20; k++) words[k / 4] = words[k / 4] << 8 | padded.charAt(i + k) & 255;
            x.append(words[0], words[1], words[2], words[3], words[4]);
        }
        x.truncate(before + text.length());
    }

    private static int length(SharedLog x) {
        for (int n = 900; n > 0; n--) {
            try {
                return x.truncate(n);
            } catch (IllegalArgumentException e) {
                continue;
            }
        }
        return 0;
    }

    private static void error(String text, int code, int position) {
        SharedLog x = new SharedLog();
        x.write(0, 0, 1, NONE);
        say(x, text);
        check.due("run of " + text, x.run(), NONE);
        check.due("errorCode of " + text, x.errorCode(), code);
        check.due("errorPosition of " + text, x.errorPosition(), position);
        check.due("nothing is executed by " + text, x.state(0), 1);
        check.due("no failure of " + text, x.failure(), 0);
        check.due("the buffer is empty after " + text, x.append(0x20202020, 0x20202020, 0x20202020, 0x20202020, 0x20202020), 20);
        check.due("run of blanks", x.run(), 0);
        check.due("no error any more", x.errorCode(), 0);
        check.due("no position any more", x.errorPosition(), NONE);
    }

    private static SharedLog runs(String text, int begun) {
        return fails(new SharedLog(), text, begun, 0, NONE);
    }

    private static SharedLog fails(SharedLog x, String text, int begun, int code, int position) {
        say(x, text);
        check.due("run of " + text, x.run(), begun);
        check.due("errorCode of " + text, x.errorCode(), 0);
        check.due("errorPosition of " + text, x.errorPosition(), NONE);
        check.due("failure of " + text, x.failure(), code);
        check.due("failurePosition of " + text, x.failurePosition(), position);
        return x;
    }

    private static String times(int n, String text) {
        return text.repeat(n);
    }

    private static void syntax() {
        check.part("syntax");
        error("flush", 1, 5);
        error("flush ", 1, 6);
        error("flush flush;", 1, 6);
        error(";", 1, 0);
        error("\n ;", 1, 2);
        error("flush;;", 1, 6);
        error("flush;)", 1, 6);
        error("Flush;", 1, 0);
        error("fLush;", 1, 0);
        error("flushx;", 1, 0);
        error("flus;", 1, 0);
        error("flushflush;", 1, 0);
        error("zlush;", 1, 0);
        error("flusz;", 1, 0);
        error("xegin;", 1, 0);
        error("checkpoint;", 1, 0);
        error("next;", 1, 0);
        error("in 1;", 1, 0);
        error("flush\t;", 1, 5);
        error("\r", 1, 0);
        error("\0", 1, 0);
        error("\u00e9;", 1, 0);
        error("12;", 1, 0);
        error("begin 0;", 1, 6);
        error("commit;", 1, 6);
        error("commit", 1, 6);
        error("commit x;", 1, 7);
        error("commit 1 2;", 1, 9);
        error("commit -1;", 1, 7);
        error("commit 123456;", 1, 7);
        error("commit 000001;", 1, 7);
        error("abort;", 1, 5);
        error("write 1 2;", 1, 9);
        error("write 1 2 3 4;", 1, 12);
        error("write 1 2 3 in;", 1, 14);
        error("write 1 2 3 in 0 1;", 1, 17);
        error("write 1 2 3 in 0 in 1;", 1, 17);
        error("write 1 2 in 3;", 1, 10);
        error("remove in 0;", 1, 7);
        error("remove;", 1, 6);
        error("copy 1;", 1, 6);
        error("copy 1 2 3;", 1, 9);
        error("send 1 2;", 1, 8);
        error("send 1 2 3 next 0;", 1, 11);
        error("join;", 1, 4);
        error("join 1 in 0;", 1, 7);
        error("commit 1 in 0;", 1, 9);
        error("read 0;", 1, 6);
        error("read 0 1 in 0;", 1, 9);
        error("flush 1;", 1, 6);
        error("mark in 0;", 1, 5);
        error("begin;abort 0;flush;mark", 1, 24);
    }

    private static void syntaxOfBlocks() {
        check.part("syntax of blocks");
        error("repeat;", 1, 6);
        error("repeat 3;", 1, 8);
        error("repeat 3", 1, 8);
        error("repeat (flush;);", 1, 7);
        error("repeat 3 flush;", 1, 9);
        error("repeat 3 (", 1, 10);
        error("repeat 3 (flush;", 1, 16);
        error("repeat 3 (flush);", 1, 15);
        error("repeat 3 (flush;)", 1, 17);
        error("repeat 3 (flush;)flush;", 1, 17);
        error("repeat 3 (;);", 1, 10);
        error("repeat 3 ());", 1, 11);
        error("repeat next (flush;);", 1, 7);
        error("when (flush;);", 1, 5);
        error("when 1 (flush;);", 1, 7);
        error("when 1 < (flush;);", 1, 9);
        error("when 1 <= 2 (flush;);", 1, 8);
        error("when 1 ! 2 (flush;);", 1, 7);
        error("when 1 < 2;", 1, 10);
        error("when 1 < 2 3 ();", 1, 11);
        error("when 1 < 2 < 3 ();", 1, 11);
        error("when -1 < 2 ();", 1, 5);
        error("when 1 + < 2 ();", 1, 9);
        error("when 1 + + 2 < 2 ();", 1, 9);
        error("when unread < 2 ();", 1, 12);
        error("when unread next < 2 ();", 1, 12);
        error("when unread unread 0 < 2 ();", 1, 12);
        error("when begin < 2 ();", 1, 5);
        error("when next 1 < 2 ();", 1, 10);
        error("when 1 < 100000 ();", 1, 9);
        error("when 1 < 2 + ();", 1, 13);
        error("when 1 * 2 < 2 ();", 1, 7);
    }

    private static void rangeAndLimits() {
        check.part("range and limits");
        error("repeat 51 (flush;);", 2, 7);
        error("repeat 99999 (", 2, 7);
        error("repeat 51", 2, 7);
        error("repeat 100000 ();", 1, 7);
        error("flush; repeat 51 (x", 2, 14);
        error("flush; x repeat 51 ();", 1, 7);
        error(times(60, "flush;") + "flush;", 3, 360);
        error(times(60, "flush;") + " x", 1, 361);
        error(times(60, "flush;") + " )", 1, 361);
        error(times(60, "flush;") + "abcdefghi", 1, 360);
        error(times(60, "flush;") + "commit", 3, 360);
        error(times(60, "flush;") + "repeat 51", 3, 360);
        error("repeat 1(" + times(60, "flush;") + ");", 3, 9 + 59 * 6);
        error("repeat 1(repeat 1(repeat 1(repeat 1(repeat 1(", 3, 44);
        error("when 1=1(when 1=1(when 1=1(when 1=1(repeat 1(", 3, 44);
        error("repeat 1(repeat 1(repeat 1(repeat 1(repeat 1)", 1, 44);
        error("repeat 1(repeat 1(repeat 1(repeat 1(repeat 51(", 2, 43);
        error("repeat 1(repeat 1(repeat 1(repeat 1();repeat 1(repeat 1(", 3, 55);
        runs("repeat 1(repeat 1(repeat 1(repeat 1(flush;);););); repeat 1(repeat 1(););", 7);
        runs(times(60, "flush;"), 60);
        runs("begin;begin;begin;begin;abort 0;", 5);
        runs("repeat 50();", 1);
        runs("when 1" + times(440, "+1") + "=441(flush;);" , 2);
        error("when " + times(447, "1+") + "=", 1, 899);
        runs("repeat 0(flush;);", 1);
        runs("repeat 00050 (flush;);", 51);
    }

    private static void commands() {
        check.part("commands");
        runs("", 0);
        runs(" \n ", 0);
        SharedLog x = runs("begin;write 1 2 3 in 0;write 4 3 9999;copy 1 5 in 0;send 2 7 20 in 0;send 2 8 0;remove 4;"
            + "commit 0;begin;remove 1 in 0;abort 0;join 2;send 2 9 1;read 0 50;flush;mark;", 16);
        check.due("next", x.state(0), 15);
        int[] types = {0, 3, 3, 5, 6, 6, 4, 1, 0, 4, 2, 7, 6, 7, 8};
        SharedLog y = new SharedLog();
        y.configure(400, 9999, 0);
        say(y, "begin;write 1 2 3 in 0;write 4 3 9999;copy 1 5 in 0;send 2 7 20 in 0;send 2 8 0;remove 4;"
            + "commit 0;begin;remove 1 in 0;abort 0;join 2;send 2 9 1;read 0 50;flush;mark;");
        y.run();
        for (int n = 0; n < types.length; n++) check.due("type of " + n, y.record(n, 0), types[n]);
        check.due("begin's number", y.record(1, 1), 0);
        check.due("without in", y.record(2, 1), NONE);
        check.due("numbers", y.record(1, 4), 3);
        check.due("block", y.block(5, 2), 3);
        check.due("removed", y.block(4, 3), NONE);
        check.due("not removed", y.block(1, 2), 3);
        check.due("message", y.message(0, 1), 9);
        check.due("checkpoint", y.state(6), 14);
        check.due("without blanks", runs("begin;write1 2 3in0;commit0;", 3).block(1, 2), 3);
        check.due("with blanks", runs("\nbegin\n;\n write 1\n2 3 in 0 ; commit 00000;\n", 3).block(1, 2), 3);
        check.due("repeat", runs("repeat 3 (write 0 0 1;repeat 2 (remove 0;););", 1 + 3 * 4).state(0), 9);
        // a repeat or a when is no operation: nothing is trimmed by it
        SharedLog z = new SharedLog();
        z.configure(40, 9999, 0);
        z.begin();
        z.send(0, 0, 20, NONE);
        z.send(0, 0, 20, NONE);
        z.flush();
        z.crash(3);
        fails(z, "repeat 1 (when 1=1 ();); when 1=2 ();", 3, 0, NONE);
        check.due("not trimmed", z.state(2), 0);
        fails(z, "flush;", 1, 0, NONE);
        check.due("trimmed", z.state(2), 2);
    }

    private static boolean holds(String comparison) {
        SharedLog x = new SharedLog();
        x.join(1);
        x.send(1, 0, 5, NONE);
        x.send(1, 0, 5, NONE);
        x.write(0, 0, 5, NONE);
        say(x, "when " + comparison + " (remove 0;);");
        int begun = x.run();
        check.due("commands of when " + comparison, begun == 1 || begun == 2, true);
        return begun == 2;
    }

    private static void comparisons() {
        check.part("when");
        String[] hold = {"1<2", "2=2", "2>1", "next=4", "durable=1", "bytes=50", "unread 0=2", "unread 1=0", "unread 99999=0",
            "1+2-3=0", "1-2<0", "1-2-3=0-4", "1-2+3=2", "next-durable=3", "unread 0+unread 0=4", "bytes-unread 0-1=47",
            "99999+99999>99999", "0-99999-99999<0-99999", "10=00010", "next>unread 0+1"};
        for (String comparison : hold) check.due(comparison, holds(comparison), true);
        String[] fail = {"2<1", "1<1", "1=2", "1>2", "1>1", "next<4", "next>4", "durable>1", "unread 0>2", "unread 6>0"};
        for (String comparison : fail) check.due(comparison, holds(comparison), false);
        SharedLog x = runs("repeat 50 (when next < 7 (write 0 0 1;););", 1 + 50 + 7);
        check.due("evaluated each time", x.state(0), 7);
    }

    private static void failures() {
        check.part("failures");
        fails(new SharedLog(), "flush; commit 4;flush;", 2, 1, 7);
        fails(new SharedLog(), "commit 0;", 1, 3, 0);
        fails(new SharedLog(), " abort 3;", 1, 3, 1);
        fails(new SharedLog(), "write 8 0 0;", 1, 1, 0);
        fails(new SharedLog(), "write 0 4 99999;", 1, 1, 0);
        fails(new SharedLog(), "write 0 0 0 in 4;", 1, 1, 0);
        fails(new SharedLog(), "write 0 0 10000 in 0;", 1, 2, 0);
        fails(new SharedLog(), "write 0 0 0 in 0;", 1, 3, 0);
        fails(new SharedLog(), "copy 1 1;", 1, 2, 0);
        fails(new SharedLog(), "remove 99999;", 1, 1, 0);
        fails(new SharedLog(), "send 4 0 0;", 1, 1, 0);
        fails(new SharedLog(), "send 0 0 21;", 1, 2, 0);
        fails(new SharedLog(), "join 4;", 1, 1, 0);
        fails(new SharedLog(), "repeat 7 (join 0;);", 8, 3, 10);
        fails(new SharedLog(), "read 0 1;", 1, 1, 0);
        fails(new SharedLog(), "join 0;read 0 0;", 2, 2, 7);
        fails(new SharedLog(), "join 0;read 0 51;", 2, 2, 7);
        fails(new SharedLog(), "repeat 5 ( begin;);", 6, 3, 11);
        SharedLog x = fails(new SharedLog(), "repeat 2(when next=1 (copy 0 0;);write 0 0 9;);flush;", 5, 2, 22);
        check.due("what was done stays", x.block(0, 0), 9);
        check.due("what comes after is not done", x.state(1), 0);
        // a failure is told until another script is executed
        say(x, "x");
        check.due("run", x.run(), NONE);
        check.due("failure stays", x.failure(), 2);
        check.due("its position stays", x.failurePosition(), 22);
        check.due("errorCode", x.errorCode(), 1);
        fails(x, "flush;", 1, 0, NONE);
        tooMany();
        messages();
    }

    private static void tooMany() {
        fails(new SharedLog(), "repeat 4 (repeat 49 (flush;););", 201, 4, 21);
        fails(new SharedLog(), "repeat 3 (repeat 50 (flush;););repeat 45 (flush;);", 200, 0, NONE);
        fails(new SharedLog(), "repeat 3 (repeat 50 (flush;););repeat 45 (flush;);flush;", 201, 4, 50);
        // the number of commands is looked at first
        fails(new SharedLog(), "repeat 3 (repeat 50 (flush;););repeat 45 (flush;);commit 9;", 201, 4, 50);
        fails(new SharedLog(), "repeat 3 (repeat 50 (flush;););repeat 44 (flush;);commit 9;", 200, 1, 50);
        fails(new SharedLog(), "repeat 50(repeat 50(repeat 50(repeat 50();););" + ");", 201, 4, 30);
        SharedLog x = fails(new SharedLog(), "repeat 50 (repeat 50 (write 0 0 1;););", 201, 4, 22);
        check.due("next", x.state(0), 200 - 1 - 4);
        SharedLog y = new SharedLog();
        fails(y, "repeat 4 (repeat 48 (write 0 0 1;););", 197, 0, NONE);
        fails(y, "repeat 4 (repeat 48 (write 0 0 1;););", 197, 0, NONE);
        fails(y, "repeat 50 (write 0 0 1;);", 18, 3, 11);
        check.due("400", y.state(0), 400);
        fails(y, "flush;when next=400(mark;);", 3, 3, 20);
    }

    private static void messages() {
        SharedLog x = new SharedLog();
        fails(x, "join 0;send 0 7 8;read 0 1;", 3, 0, NONE);
        check.due("message by a script", x.message(0, 1), 7);
        fails(x, "read 0 0;", 1, 2, 0);
        check.due("a read that fails changes nothing", x.message(0, 2), 8);
        fails(x, "read 0 1;", 1, 0, NONE);
        check.refuses("read of nothing", "index", () -> x.message(0, 0));
    }

    public static void main(String[] args) {
        syntax();
        syntaxOfBlocks();
        rangeAndLimits();
        commands();
        comparisons();
        failures();
        check.end();
    }
}
