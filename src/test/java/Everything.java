import java.util.ArrayList;
import java.util.List;

/**
 * All that an object tells, and how it goes on, after some calls: two objects of which nothing
 * differs here are in the same state. An object is used for 512 calls, so the calls are done
 * again on a new one whenever the questions have used the last one up.
 */
final class Everything {
    private static final int MOST_CALLS = 512;
    private static final int BLANKS = 0x20202020;

    private final List<Call> before;
    private final List<String> answers = new ArrayList<>();
    private SharedLog log;
    private int used;

    private Everything(List<Call> before) {
        this.before = before;
    }

    static List<String> after(List<Call> calls) {
        Everything all = new Everything(calls);
        all.askLog();
        all.askRecords();
        all.askViews();
        all.askConsumers();
        all.goOn();
        return all.answers;
    }

    private void again() {
        log = new SharedLog();
        for (Call call : before) call.on(log);
        used = before.size();
    }

    private String ask(String name, Integer... arguments) {
        if (log == null || used >= MOST_CALLS) again();
        used++;
        Call call = new Call(name, arguments);
        String answer = call.on(log);
        answers.add(call + " = " + answer);
        return answer;
    }

    private int number(String name, Integer... arguments) {
        return Integer.parseInt(ask(name, arguments));
    }

    private void askEach(String name, int index, int last) {
        for (int what = 0; what <= last; what++) ask(name, index, what);
    }

    private void askLog() {
        for (String name : new String[] {"errorCode", "errorPosition", "failure", "failurePosition", "holder", "slowest"}) ask(name);
        for (int what = 0; what <= 10; what++) ask("state", what);
        int segments = number("segments");
        for (int index = 0; index < segments; index++) {
            askEach("segment", index, 4);
            ask("fill", index);
        }
        for (int tx = 0; tx < 4; tx++) askEach("transaction", tx, 2);
    }

    private void askRecords() {
        int first = number("state", 2);
        int next = number("state", 0);
        for (int number = first - 1; number <= next; number++) askEach("record", number, 9);
        for (int place = 0; !ask("order", next, place).startsWith("!"); place++) continue;
    }

    private void askViews() {
        int next = number("state", 0);
        int mark = number("state", 6);
        for (int file = 0; file < 8; file++) for (int block = 0; block < 4; block++) ask("block", file, block);
        // All prefixes of a long log would take too long, and its ends tell most.
        for (int prefix = mark; prefix <= next; prefix += prefix > mark + 5 && prefix < next - 20 ? 15 : 1) {
            for (int file = 0; file < 8; file++) ask("blockAt", prefix, file, (prefix + file) % 4);
            for (int consumer = 0; consumer < 6; consumer++) ask("positionAt", prefix, consumer);
            for (int topic = 0; topic < 4; topic++) ask("visibleAt", prefix, topic);
            ask("order", prefix, 0);
        }
        for (int topic = 0; topic < 4; topic++) {
            int count = number("visibleAt", next, topic);
            for (int index = 0; index <= count; index++) ask("visible", topic, index);
        }
    }

    private void askConsumers() {
        for (int consumer = 0; consumer < 6; consumer++) {
            askEach("consumer", consumer, 5);
            ask("lag", consumer);
            ask("wouldFree", consumer);
        }
        askMessages();
    }

    private void askMessages() {
        for (int index = 0; !ask("message", index, 0).startsWith("!"); index++) {
            ask("message", index, 1);
            ask("message", index, 2);
        }
    }

    private void askState() {
        for (int what = 0; what <= 10; what++) ask("state", what);
        ask("segments");
    }

    /** What is hidden shows in what comes after: the text of the buffer, what a checkpoint kept. */
    private void goOn() {
        again();
        ask("append", BLANKS, BLANKS, BLANKS, BLANKS, BLANKS);
        ask("run");
        for (String name : new String[] {"errorCode", "errorPosition", "failure", "failurePosition"}) ask(name);
        askState();
        askMessages();
        again();
        ask("begin");
        for (int tx = 0; tx < 4; tx++) ask("commit", tx);
        for (int consumer = 0; consumer < 6; consumer++) ask("read", consumer, 50);
        askMessages();
        ask("checkpoint");
        for (int topic = 0; topic < 4; topic++) ask("join", topic);
        for (int topic = 0; topic < 4; topic++) ask("send", topic, 1, 20, SharedLog.NONE);
        for (int consumer = 0; consumer < 6; consumer++) askEach("consumer", consumer, 5);
        askState();
        again();
        ask("crash", number("state", 0));
        askState();
        ask("flush");
        askState();
        ask("configure", 40, 40, 0);
        log = null;
    }
}
