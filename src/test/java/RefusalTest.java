import java.util.ArrayList;
import java.util.HashMap;
import java.util.List;
import java.util.Map;
import java.util.TreeSet;

/**
 * "A method that throws an exception changes nothing. If several exceptions apply, the one that is
 * listed first is thrown." Every method that throws is called in several states with values on
 * both sides of each of its edges, in all combinations.
 */
public final class RefusalTest {
    private static final Check check = new Check();
    private static final int LEAST = Integer.MIN_VALUE;
    private static final int MOST = Integer.MAX_VALUE;
    private static final int MOST_CALLS = 512;

    /** What an object tells in a state, from which it follows what it has to refuse. */
    private static final class Facts {
        final List<Call> calls;
        final int next, durable, first, mark, consumers, segments, taken, buffered;
        final boolean[] open = new boolean[4];
        final int[] effects = new int[401];
        final List<List<Integer>> shown = new ArrayList<>();

        Facts(Run run) {
            calls = run.calls();
            SharedLog log = new SharedLog();
            for (Call call : calls) call.on(log);
            next = log.state(0);
            durable = log.state(1);
            first = log.state(2);
            mark = log.state(6);
            consumers = log.state(8);
            segments = log.segments();
            for (int tx = 0; tx < 4; tx++) open[tx] = log.transaction(tx, 0) == 1;
            for (int number = first; number < next; number++) effects[number] = log.record(number, 8);
            for (int topic = 0; topic < 4; topic++) shown.add(messages(log, topic));
            int count = 0;
            while (!new Call("message", count, 0).on(log).startsWith("!")) count++;
            taken = count;
            buffered = run.buffered();
        }

        /** The records of a topic's messages; those that are not in the log are NONE. */
        private List<Integer> messages(SharedLog log, int topic) {
            List<Integer> numbers = new ArrayList<>();
            int count = log.visibleAt(next, topic);
            for (int index = 0; index < count; index++) {
                String answer = new Call("visible", topic, index).on(log);
                numbers.add(answer.startsWith("!") ? SharedLog.NONE : Integer.parseInt(answer));
            }
            return numbers;
        }

        boolean isOpen(int tx) {
            return tx >= 0 && tx < 4 && open[tx];
        }

        boolean isFull() {
            return next == 400;
        }

        int places(int prefix) {
            int count = 0;
            for (int number = first; number < next; number++) {
                if (effects[number] != SharedLog.NONE && effects[number] < prefix) count++;
            }
            return count;
        }

        boolean isShown(int topic, int index) {
            if (out(topic, 0, 3)) return false;
            List<Integer> numbers = shown.get(topic);
            return !out(index, 0, numbers.size() - 1) && numbers.get(index) != SharedLog.NONE;
        }
    }

    private interface Condition {
        boolean applies(Facts f, int[] a);
    }

    private interface Values {
        int[] of(Facts f);
    }

    /** A method's exceptions in the order in which the document lists them. */
    private static final class Rule {
        final String name;
        final List<Values> values = new ArrayList<>();
        final List<String> kinds = new ArrayList<>();
        final List<Condition> conditions = new ArrayList<>();
        final TreeSet<Integer> seen = new TreeSet<>();

        Rule(String name) {
            this.name = name;
        }

        Rule with(int... list) {
            values.add(f -> list);
            return this;
        }

        Rule from(Values list) {
            values.add(list);
            return this;
        }

        Rule refuses(String kind, Condition condition) {
            kinds.add(kind);
            conditions.add(condition);
            return this;
        }

        /** The kind of the exception that is due, or nothing. */
        String due(Facts f, int[] a) {
            int mask = 0;
            String kind = "";
            for (int n = conditions.size() - 1; n >= 0; n--) {
                if (conditions.get(n).applies(f, a)) {
                    mask |= 1 << n;
                    kind = "! " + kinds.get(n);
                }
            }
            seen.add(mask);
            return kind;
        }
    }

    private static boolean out(int value, int least, int most) {
        return value < least || value > most;
    }

    private static final int[] TX = {LEAST, -2, -1, 0, 1, 3, 4, MOST};

    private static List<Rule> operations() {
        List<Rule> rules = new ArrayList<>();
        rules.add(new Rule("append").with(0, -1).with(LEAST).with(MOST).with(7).with(0x20202020)
            .refuses("state", (f, a) -> f.buffered + 20 > 900));
        rules.add(new Rule("truncate").from(f -> new int[] {LEAST, -1, 0, f.buffered, f.buffered + 1, 901, MOST})
            .refuses("argument", (f, a) -> out(a[0], 0, f.buffered)));
        rules.add(new Rule("configure").with(LEAST, 39, 40, 400, 401, MOST).with(LEAST, 39, 40, 9999, 10000, MOST).with(LEAST, -1, 0, 100, 101, MOST)
            .refuses("argument", (f, a) -> out(a[0], 40, 400) || out(a[1], 40, 9999) || out(a[2], 0, 100)));
        rules.add(new Rule("begin").refuses("state", (f, a) -> f.isOpen(0) && f.isOpen(1) && f.isOpen(2) && f.isOpen(3) || f.isFull()));
        for (String name : new String[] {"commit", "abort"}) {
            rules.add(new Rule(name).with(LEAST, -2, -1, 0, 1, 2, 3, 4, MOST).refuses("index", (f, a) -> out(a[0], 0, 3))
                .refuses("state", (f, a) -> !f.isOpen(a[0]) || f.isFull()));
        }
        rules.add(new Rule("write").with(-1, 0, 7, 8).with(-1, 0, 3, 4).with(-1, 0, 9999, 10000).with(TX)
            .refuses("index", (f, a) -> out(a[0], 0, 7) || out(a[1], 0, 3) || out(a[3], -1, 3))
            .refuses("argument", (f, a) -> out(a[2], 0, 9999))
            .refuses("state", (f, a) -> a[3] != -1 && !f.isOpen(a[3]) || f.isFull()));
        rules.add(new Rule("remove").with(LEAST, -1, 0, 7, 8, MOST).with(TX).refuses("index", (f, a) -> out(a[0], 0, 7) || out(a[1], -1, 3))
            .refuses("state", (f, a) -> a[1] != -1 && !f.isOpen(a[1]) || f.isFull()));
        rules.add(new Rule("copy").with(LEAST, -1, 0, 7, 8, MOST).with(LEAST, -1, 0, 7, 8, MOST).with(TX)
            .refuses("index", (f, a) -> out(a[0], 0, 7) || out(a[1], 0, 7) || out(a[2], -1, 3))
            .refuses("argument", (f, a) -> a[0] == a[1])
            .refuses("state", (f, a) -> a[2] != -1 && !f.isOpen(a[2]) || f.isFull()));
        rules.add(new Rule("send").with(-1, 0, 3, 4).with(-1, 0, 9999, 10000).with(-1, 0, 20, 21).with(TX)
            .refuses("index", (f, a) -> out(a[0], 0, 3) || out(a[3], -1, 3))
            .refuses("argument", (f, a) -> out(a[1], 0, 9999) || out(a[2], 0, 20))
            .refuses("state", (f, a) -> a[3] != -1 && !f.isOpen(a[3]) || f.isFull()));
        rules.add(new Rule("join").with(LEAST, -1, 0, 3, 4, MOST).refuses("index", (f, a) -> out(a[0], 0, 3))
            .refuses("state", (f, a) -> f.consumers == 6 || f.isFull()));
        rules.add(new Rule("read").from(RefusalTest::consumers).with(LEAST, -1, 0, 1, 50, 51, MOST)
            .refuses("index", (f, a) -> out(a[0], 0, f.consumers - 1)).refuses("argument", (f, a) -> out(a[1], 1, 50))
            .refuses("state", (f, a) -> f.isFull()));
        rules.add(new Rule("message").from(f -> new int[] {LEAST, -1, 0, f.taken - 1, f.taken, 50, MOST}).with(LEAST, -1, 0, 2, 3, MOST)
            .refuses("index", (f, a) -> out(a[0], 0, f.taken - 1)).refuses("argument", (f, a) -> out(a[1], 0, 2)));
        rules.add(new Rule("checkpoint").refuses("state", (f, a) -> f.isFull()));
        rules.add(new Rule("damage").from(RefusalTest::numbers).refuses("index", (f, a) -> out(a[0], f.first, f.next - 1))
            .refuses("state", (f, a) -> a[0] < f.durable));
        rules.add(new Rule("crash").from(f -> new int[] {LEAST, -1, f.durable - 1, f.durable, f.next, f.next + 1, MOST})
            .refuses("argument", (f, a) -> out(a[0], f.durable, f.next)));
        return rules;
    }

    private static int[] consumers(Facts f) {
        return new int[] {LEAST, -1, 0, f.consumers - 1, f.consumers, 6, MOST};
    }

    private static int[] numbers(Facts f) {
        return new int[] {LEAST, -1, 0, f.first - 1, f.first, f.durable - 1, f.durable, f.next - 1, f.next, 400, MOST};
    }

    private static int[] prefixes(Facts f) {
        return new int[] {LEAST, -1, f.mark - 1, f.mark, f.next, f.next + 1, MOST};
    }

    private static List<Rule> queries() {
        List<Rule> rules = new ArrayList<>();
        rules.add(new Rule("state").with(LEAST, -1, 0, 10, 11, MOST).refuses("argument", (f, a) -> out(a[0], 0, 10)));
        rules.add(new Rule("record").from(RefusalTest::numbers).with(LEAST, -1, 0, 9, 10, MOST)
            .refuses("index", (f, a) -> out(a[0], f.first, f.next - 1)).refuses("argument", (f, a) -> out(a[1], 0, 9)));
        rules.add(new Rule("segment").from(f -> new int[] {LEAST, -1, 0, f.segments - 1, f.segments, MOST}).with(LEAST, -1, 0, 4, 5, MOST)
            .refuses("index", (f, a) -> out(a[0], 0, f.segments - 1)).refuses("argument", (f, a) -> out(a[1], 0, 4)));
        rules.add(new Rule("fill").from(f -> new int[] {LEAST, -1, 0, f.segments - 1, f.segments, MOST})
            .refuses("index", (f, a) -> out(a[0], 0, f.segments - 1)));
        rules.add(new Rule("order").from(RefusalTest::prefixes)
            .from(f -> new int[] {LEAST, -1, 0, f.places(f.mark) - 1, f.places(f.mark), f.places(f.next) - 1, f.places(f.next), MOST})
            .refuses("argument", (f, a) -> out(a[0], f.mark, f.next)).refuses("element", (f, a) -> out(a[1], 0, f.places(a[0]) - 1)));
        rules.add(new Rule("transaction").with(LEAST, -1, 0, 3, 4, MOST).with(LEAST, -1, 0, 2, 3, MOST)
            .refuses("index", (f, a) -> out(a[0], 0, 3)).refuses("argument", (f, a) -> out(a[1], 0, 2)));
        rules.add(new Rule("block").with(LEAST, -1, 0, 7, 8, MOST).with(LEAST, -1, 0, 3, 4, MOST)
            .refuses("index", (f, a) -> out(a[0], 0, 7) || out(a[1], 0, 3)));
        rules.add(new Rule("blockAt").from(RefusalTest::prefixes).with(LEAST, -1, 0, 7, 8, MOST).with(LEAST, -1, 0, 3, 4, MOST)
            .refuses("index", (f, a) -> out(a[1], 0, 7) || out(a[2], 0, 3)).refuses("argument", (f, a) -> out(a[0], f.mark, f.next)));
        rules.add(new Rule("visibleAt").from(RefusalTest::prefixes).with(LEAST, -1, 0, 3, 4, MOST)
            .refuses("index", (f, a) -> out(a[1], 0, 3)).refuses("argument", (f, a) -> out(a[0], f.mark, f.next)));
        rules.add(new Rule("positionAt").from(RefusalTest::prefixes).from(RefusalTest::consumers)
            .refuses("index", (f, a) -> out(a[1], 0, f.consumers - 1)).refuses("argument", (f, a) -> out(a[0], f.mark, f.next)));
        rules.add(new Rule("visible").with(LEAST, -1, 0, 1, 2, 3, 4, MOST)
            .from(f -> new int[] {LEAST, -1, 0, 1, f.shown.get(0).size(), f.shown.get(1).size(), f.shown.get(2).size(), f.shown.get(2).size() - 1, MOST})
            .refuses("index", (f, a) -> out(a[0], 0, 3)).refuses("element", (f, a) -> !f.isShown(a[0], a[1])));
        rules.add(new Rule("consumer").from(RefusalTest::consumers).with(LEAST, -1, 0, 5, 6, MOST)
            .refuses("index", (f, a) -> out(a[0], 0, f.consumers - 1)).refuses("argument", (f, a) -> out(a[1], 0, 5)));
        rules.add(new Rule("lag").from(RefusalTest::consumers).refuses("index", (f, a) -> out(a[0], 0, f.consumers - 1)));
        rules.add(new Rule("wouldFree").from(RefusalTest::consumers).refuses("index", (f, a) -> out(a[0], 0, f.consumers - 1)));
        rules.add(new Rule("slowest").refuses("element", (f, a) -> f.consumers == 0));
        return rules;
    }

    private static Map<String, Facts> states() {
        Map<String, Facts> states = new HashMap<>();
        states.put("new", new Facts(new Run(check)));
        states.put("busy", new Facts(new Run(check, "configure(40, 60, 1) = 0", "join(0|1|2) = 0 1 2", "send(2, 1, 2, NONE) = 3", "write(6, 2, 5, NONE) = 4",
            "checkpoint() = 5", "begin() = 0", "write(5, 1, 77, 0) = 7", "send(0, 6, 20, NONE) = 8", "read(2, 2) = 1", "begin() = 1", "send(1, 7, 8, 1) = 11",
            "send(1, 7, 8, NONE) = 12", "damage(12) = 1", "say x", "run() = NONE", "say flush; commit 3;", "run() = 2", "say begin;write 0 0 1 in 0;")));
        states.put("to be trimmed", new Facts(new Run(check, Rows.with(Rows.TO_BE_TRIMMED, "say flush;"))));
        states.put("trimmed", new Facts(new Run(check, "configure(40, 9999, 0) = 0", "4 * send(2, 3, 20, NONE) = 0..3", "write(1, 0, 5, NONE) = 4",
            "join(2) = 0", "checkpoint() = 6", "send(2, 8, 9, NONE) = 7", "send(0, 8, 9, NONE) = 8", "3 * begin() = 0..2", "abort(1) = 0")));
        states.put("crowded", new Facts(new Run(check, "6 * join(2) = 0..5", "4 * begin() = 0..3", "3 * send(2, 4, 5, NONE) = 10..12", "read(3, 2) = 2",
            "say " + "flush;".repeat(148) + "commit 9;   ")));
        states.put("full", new Facts(new Run(check, Rows.with(Rows.TO_400, "damage(398) = 1", "say flush;read 0 1;"))));
        states.put("full and crowded", new Facts(new Run(check, "configure(100, 300, 20) = 0", "6 * join(0) = 0..5", "4 * begin() = 0..3",
            "2 * send(0, 1, 2, NONE) = 10 11", "read(5, 1) = 1", "checkpoint() = 13", "say repeat 4(repeat 48(send 1 2 3;););", "run() = 197",
            "say repeat 4(repeat 48(write 3 2 1 in 2;););", "run() = 197", "say repeat 50(begin;);", "run() = 2", "say mark;mark;",
            "2 * remove(3, NONE) = 398 399")));
        return states;
    }

    private static List<int[]> arguments(Rule rule, Facts facts) {
        List<int[]> rows = new ArrayList<>();
        rows.add(new int[0]);
        for (Values values : rule.values) {
            List<int[]> longer = new ArrayList<>();
            for (int[] row : rows) {
                for (int value : values.of(facts)) {
                    int[] more = java.util.Arrays.copyOf(row, row.length + 1);
                    more[row.length] = value;
                    longer.add(more);
                }
            }
            rows = longer;
        }
        return rows;
    }

    private static Call call(Rule rule, int[] row) {
        Integer[] arguments = new Integer[row.length];
        for (int n = 0; n < row.length; n++) arguments[n] = row[n];
        return new Call(rule.name, arguments);
    }

    private static SharedLog made(Facts facts) {
        SharedLog log = new SharedLog();
        for (Call call : facts.calls) call.on(log);
        return log;
    }

    /** Refused calls change nothing, so many of them can be made on one object. */
    private static void tryAll(Rule rule, Facts facts, List<String> before) {
        List<Call> done = new ArrayList<>(facts.calls);
        SharedLog log = made(facts);
        for (int[] row : arguments(rule, facts)) {
            String due = rule.due(facts, row);
            Call call = call(rule, row);
            if (due.isEmpty()) {
                check.due(call + " is refused", call.on(made(facts)).startsWith("!"), false);
                continue;
            }
            check.due(call.toString(), call.on(log), due);
            done.add(call);
            if (done.size() >= MOST_CALLS - 100) {
                check.due("what refused calls of " + rule.name + " changed", Run.firstChange(before, Everything.after(done)), "nothing");
                done = new ArrayList<>(facts.calls);
                log = made(facts);
            }
        }
        check.due("what refused calls of " + rule.name + " changed", Run.firstChange(before, Everything.after(done)), "nothing");
    }

    public static void main(String[] args) {
        check.part("the states");
        Map<String, Facts> states = states();
        List<Rule> rules = operations();
        rules.addAll(queries());
        for (Map.Entry<String, Facts> state : states.entrySet()) {
            check.part("refusals in the state " + state.getKey());
            List<String> before = Everything.after(state.getValue().calls);
            for (Rule rule : rules) tryAll(rule, state.getValue(), before);
        }
        check.part("exceptions at once");
        for (Rule rule : rules) {
            // an open transaction and a visible message have numbers that are in range
            boolean follows = rule.name.matches("commit|abort|visible");
            check.due("combinations of exceptions of " + rule.name, rule.seen.size(), follows ? 3 : 1 << rule.kinds.size());
        }
        check.due("methods that throw", rules.size(), 31);
        check.end();
    }
}
