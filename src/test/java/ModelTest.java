import java.lang.reflect.InvocationTargetException;
import java.lang.reflect.Method;
import java.util.ArrayList;
import java.util.Arrays;
import java.util.HashMap;
import java.util.List;
import java.util.Map;
import java.util.Random;

/** Runs of seeded random calls: SharedLog and Model have to answer each of them alike. */
public final class ModelTest {
    private static final int CALLS = 512;

    private final Random random;
    private final SharedLog log = new SharedLog();
    private final Model model = new Model();
    private final List<String> history = new ArrayList<>();
    private final Map<String, Integer> answers;
    private final int style;
    private int calls;
    private boolean wrong;

    private ModelTest(long seed, Map<String, Integer> answers) {
        random = new Random(seed);
        style = random.nextInt(6);
        this.answers = answers;
    }

    private static final Map<String, Method> FACE = methods(SharedLog.class);
    private static final Map<String, Method> TWIN = methods(Model.class);

    private static Map<String, Method> methods(Class<?> type) {
        Map<String, Method> result = new HashMap<>();
        for (Method m : type.getDeclaredMethods()) {
            if (!java.lang.reflect.Modifier.isPrivate(m.getModifiers())) result.put(m.getName(), m);
        }
        return result;
    }

    private static Object answer(Method method, Object target, Object[] arguments) {
        try {
            return method.invoke(target, arguments);
        } catch (InvocationTargetException e) {
            Throwable cause = e.getCause();
            String machine = cause.getClass().getName();
            boolean own = cause.getStackTrace().length > 0
                && cause.getStackTrace()[0].getClassName().startsWith(target.getClass().getName());
            return (own ? "throws." : "machine throws.") + machine;
        } catch (IllegalAccessException e) {
            throw new IllegalStateException(e);
        }
    }

    private Object call(String name, Object... arguments) {
        if (wrong || calls >= CALLS) return 0;
        calls++;
        Object want = answer(TWIN.get(name), model, arguments);
        Object got = answer(FACE.get(name), log, arguments);
        history.add(name + Arrays.toString(arguments) + " -> " + got);
        String kind = want instanceof String ? (String) want : "answer";
        answers.merge(name + " " + kind, 1, Integer::sum);
        if (!want.equals(got)) {
            wrong = true;
            history.add("due is " + want);
        }
        return want;
    }

    private int pick(int... values) {
        return values[random.nextInt(values.length)];
    }

    /** Mostly a number from low to high, seldom one beside them. */
    private int near(int low, int high) {
        if (random.nextInt(25) == 0) return pick(low - 1, high + 1, low - 2, high + 2, Integer.MIN_VALUE, Integer.MAX_VALUE, -1);
        return high < low ? low : low + random.nextInt(high - low + 1);
    }

    private int tx() {
        if (random.nextInt(2) == 0) return -1;
        for (int tries = 0; tries < 3; tries++) {
            int tx = random.nextInt(4);
            if (model.transaction(tx, 0) == 1) return tx;
        }
        return near(-1, 3);
    }

    private int topic() {
        return style < 3 ? near(0, 1) : near(0, 3);
    }

    private void operate() {
        int consumers = model.state(8);
        switch (random.nextInt(style == 4 ? 16 : 15)) {
            case 0: call("begin"); break;
            case 1: call("commit", random.nextInt(3) == 0 ? near(0, 3) : tx() & 3); break;
            case 2: if (random.nextInt(2) == 0) call("abort", near(0, 3)); break;
            case 3: case 4: call("write", near(0, 7), near(0, 3), near(0, 9999), tx()); break;
            case 5: call("remove", near(0, 7), tx()); break;
            case 6: call("copy", near(0, 7), near(0, 7), tx()); break;
            case 7: case 8: case 9: call("send", topic(), near(0, 9999), near(0, 20), tx()); break;
            case 10: if (random.nextInt(3) == 0) call("join", topic()); break;
            case 11: case 12: call("read", near(0, consumers - 1), random.nextInt(3) == 0 ? near(1, 50) : near(1, 4)); break;
            case 13: if (random.nextInt(2) == 0) call("flush"); break;
            case 14: if (random.nextInt(style == 1 ? 12 : 3) == 0) call("checkpoint"); break;
            default: crashing(); break;
        }
    }

    private void crashing() {
        int durable = model.state(1);
        int next = model.state(0);
        if (random.nextInt(3) > 0) call("damage", near(durable, next - 1));
        if (random.nextInt(8) == 0) call("damage", near(model.state(2), next));
        if (random.nextInt(2) == 0) call("crash", near(durable, next));
    }

    private int prefix() {
        return near(model.state(6), model.state(0));
    }

    private void ask() {
        int consumer = near(0, model.state(8) - 1);
        switch (random.nextInt(20)) {
            case 0: case 1: call("state", near(0, 10)); break;
            case 2: case 3: call("record", near(model.state(2), model.state(0) - 1), near(0, 9)); break;
            case 4: call("segments"); break;
            case 5: call("segment", near(0, model.segments() - 1), near(0, 4)); break;
            case 6: call("fill", near(0, model.segments() - 1)); break;
            case 7: call("order", prefix(), near(0, model.state(0) - model.state(2))); break;
            case 8: call("transaction", near(0, 3), near(0, 2)); break;
            case 9: call("block", near(0, 7), near(0, 3)); break;
            case 10: call("blockAt", prefix(), near(0, 7), near(0, 3)); break;
            case 11: call("visibleAt", prefix(), near(0, 3)); break;
            case 12: call("positionAt", prefix(), consumer); break;
            case 13: call("visible", topic(), near(0, model.visibleAt(model.state(0), 0))); break;
            case 14: call("consumer", consumer, near(0, 5)); break;
            case 15: call("lag", consumer); break;
            case 16: call("holder"); break;
            case 17: call("slowest"); break;
            case 18: call("wouldFree", consumer); break;
            default: call("message", near(0, random.nextInt(3)), near(0, 2)); break;
        }
    }

    /** Looks at the whole state outside of the counted calls. */
    private void askAll() {
        int before = calls;
        calls = 0;
        for (int what = 0; what <= 10; what++) call("state", what);
        for (int s = 0; s < model.segments(); s++) for (int what = 0; what <= 4; what++) call("segment", s, what);
        int first = model.state(2);
        for (int n = 0; n < 6; n++) call("record", first + random.nextInt(1 + model.state(0) - first), random.nextInt(10));
        for (int c = 0; c < model.state(8); c++) {
            for (int what = 0; what <= 5; what++) call("consumer", c, what);
            call("wouldFree", c);
            call("lag", c);
        }
        for (int f = 0; f < 8; f++) call("block", f, random.nextInt(4));
        for (int t = 0; t < 4; t++) for (int what = 0; what <= 2; what++) call("transaction", t, what);
        call("holder");
        call("slowest");
        calls = before;
    }

    // ---- scripts

    private final StringBuilder text = new StringBuilder();

    private void put(Object token) {
        if (random.nextInt(60) == 0) {
            String[] odd = {"", "x", "(", ")", ";", "100000", "begin", "in", "<", "abcdefghi", "\t", "51", "\u00e9", "when", "A"};
            token = odd[random.nextInt(odd.length)];
        }
        String s = token.toString();
        boolean glue = text.length() > 0 && s.length() > 0 && Character.isLetter(text.charAt(text.length() - 1)) && Character.isLetter(s.charAt(0));
        boolean digits = text.length() > 0 && s.length() > 0 && Character.isDigit(text.charAt(text.length() - 1)) && Character.isDigit(s.charAt(0));
        if (glue || digits || random.nextInt(4) == 0) text.append(random.nextInt(5) == 0 ? '\n' : ' ');
        text.append(s);
    }

    private void number(int low, int high) {
        put(random.nextInt(15) == 0 ? pick(low - 1 < 0 ? 0 : low - 1, high + 1, 99999) : low + random.nextInt(high - low + 1));
    }

    private void maybeTx() {
        if (random.nextInt(3) == 0) {
            put("in");
            number(0, 3);
        }
    }

    private void atom() {
        switch (random.nextInt(6)) {
            case 0: put("next"); break;
            case 1: put("durable"); break;
            case 2: put("bytes"); break;
            case 3: put("unread"); number(0, 5); break;
            default: number(0, random.nextInt(2) == 0 ? 5 : 300); break;
        }
    }

    private void sum() {
        atom();
        for (int n = random.nextInt(3); n > 0; n--) {
            put(random.nextInt(2) == 0 ? "+" : "-");
            atom();
        }
    }

    private void block(int depth) {
        put("(");
        for (int n = random.nextInt(4); n > 0; n--) command(depth + 1);
        put(")");
    }

    private void command(int depth) {
        switch (random.nextInt(depth > 4 ? 12 : 16)) {
            case 0: put("begin"); break;
            case 1: put("commit"); number(0, 3); break;
            case 2: put("abort"); number(0, 3); break;
            case 3: put("write"); number(0, 7); number(0, 3); number(0, 9999); maybeTx(); break;
            case 4: put("remove"); number(0, 7); maybeTx(); break;
            case 5: put("copy"); number(0, 7); number(0, 7); maybeTx(); break;
            case 6: case 7: put("send"); number(0, 3); number(0, 9999); number(0, 20); maybeTx(); break;
            case 8: put("join"); number(0, 3); break;
            case 9: put("read"); number(0, 2); number(1, 50); break;
            case 10: put("flush"); break;
            case 11: put("mark"); break;
            case 12: case 13: put("repeat"); number(0, random.nextInt(4) == 0 ? 50 : 4); block(depth); break;
            default: put("when"); sum(); put(random.nextBoolean() ? "<" : random.nextBoolean() ? "=" : ">"); sum(); block(depth); break;
        }
        put(";");
    }

    /** Some runs come near to the last number, where most operations are refused. */
    private void crowd() {
        for (int n = 0; n < 4 && model.state(0) < 360 + random.nextInt(45); n++) {
            text.setLength(0);
            text.append("repeat 50(").append(random.nextBoolean() ? "send 1 2 3;" : "").append("send 0 1 ").append(random.nextInt(21));
            text.append(";write ").append(random.nextInt(8)).append(" 0 7;").append(random.nextInt(3) == 0 ? "flush;" : "").append(");");
            submit();
        }
    }

    private void script() {
        text.setLength(0);
        if (random.nextInt(6) == 0) {
            for (int n = 55 + random.nextInt(10); n > 0; n--) put(random.nextInt(3) == 0 ? "flush;" : "begin;");
        } else if (random.nextInt(8) == 0) {
            text.append("repeat 50(repeat 50(when next<").append(random.nextInt(400)).append("(flush;);););");
        } else {
            for (int n = random.nextInt(8); n > 0; n--) command(0);
        }
        if (random.nextInt(12) == 0) text.setLength(random.nextInt(text.length() + 1));
        if (text.length() > 900) text.setLength(900);
        submit();
    }

    private void submit() {
        int length = text.length();
        while (text.length() % 20 != 0) text.append(' ');
        for (int i = 0; i < text.length(); i += 20) {
            call("append", word(i), word(i + 4), word(i + 8), word(i + 12), word(i + 16));
        }
        if (random.nextInt(20) == 0) call("append", 0, 0, 0, 0, random.nextInt());
        call("truncate", near(length, length));
        call("run");
        call("errorCode");
        call("errorPosition");
        call("failure");
        call("failurePosition");
    }

    private int word(int i) {
        return text.charAt(i) << 24 | text.charAt(i + 1) << 16 | text.charAt(i + 2) << 8 | text.charAt(i + 3);
    }

    // ---- runs

    private void configure() {
        if (style == 0) call("configure", near(40, 60), near(40, 120), near(0, 8));
        else if (style == 5) call("configure", near(40, 400), near(40, 9999), near(0, 100));
        else call("configure", near(40, 100), near(40, 400), near(0, 20));
    }

    private boolean run() {
        if (random.nextInt(4) > 0) configure();
        boolean scripted = random.nextInt(3) == 0;
        for (int n = random.nextInt(4); n > 0; n--) call("join", topic());
        if (random.nextInt(5) == 0) crowd();
        for (int n = 0; n < 2000 && calls < CALLS && !wrong; n++) {
            int dice = random.nextInt(100);
            if (dice < 55) operate();
            else if (dice < 58 && style != 1) crashing();
            else if (dice < 62 && scripted) script();
            else if (dice == 99 && random.nextInt(4) == 0) configure();
            else ask();
            if (n % 40 == 0) askAll();
        }
        if (!wrong) askAll();
        return !wrong;
    }

    public static void main(String[] args) {
        long from = args.length > 0 ? Long.parseLong(args[0]) : 0;
        long to = args.length > 1 ? Long.parseLong(args[1]) : 300;
        boolean tell = args.length > 2;
        Map<String, Integer> answers = new java.util.TreeMap<>();
        for (long seed = from; seed < to; seed++) {
            ModelTest test = new ModelTest(seed, answers);
            if (!test.run()) {
                System.out.println("seed " + seed + ", the last calls:");
                int size = test.history.size();
                test.history.subList(tell ? 0 : Math.max(0, size - 30), size).forEach(System.out::println);
                System.exit(1);
            }
        }
        if (tell) answers.forEach((k, v) -> System.out.println(k + ": " + v));
    }
}
