import java.lang.reflect.InvocationTargetException;
import java.lang.reflect.Method;
import java.util.ArrayList;
import java.util.Arrays;
import java.util.HashMap;
import java.util.List;
import java.util.Map;
import java.util.NoSuchElementException;

/** A call of the face, told as a text such as "write(0, 0, 5, NONE)". */
final class Call {
    private static final Map<String, Method> FACE = face();

    private final String name;
    private final Object[] arguments;

    Call(String name, Integer... arguments) {
        this.name = name;
        this.arguments = arguments.clone();
    }

    private static Map<String, Method> face() {
        Map<String, Method> methods = new HashMap<>();
        for (Method method : SharedLog.class.getMethods()) {
            if (method.getDeclaringClass() == SharedLog.class) methods.put(method.getName(), method);
        }
        return methods;
    }

    /**
     * Reads the calls of a text. An argument may be a range (0..3) or a choice (-1|4|LEAST): the
     * text then stands for one call for each of them, and "3 * begin()" for three calls.
     */
    static List<Call> read(String text) {
        int star = text.indexOf(" * ");
        int times = star < 0 ? 1 : Integer.parseInt(text.substring(0, star).trim());
        String call = star < 0 ? text : text.substring(star + 3);
        int open = call.indexOf('(');
        String inside = call.substring(open + 1, call.lastIndexOf(')')).trim();
        List<List<Integer>> rows = new ArrayList<>();
        rows.add(new ArrayList<>());
        for (String argument : inside.isEmpty() ? new String[0] : inside.split(",")) {
            rows = lengthen(rows, values(argument));
        }
        List<Call> calls = new ArrayList<>();
        for (int n = 0; n < times; n++) {
            for (List<Integer> row : rows) calls.add(new Call(call.substring(0, open).trim(), row.toArray(new Integer[0])));
        }
        return calls;
    }

    private static List<List<Integer>> lengthen(List<List<Integer>> rows, List<Integer> values) {
        List<List<Integer>> result = new ArrayList<>();
        for (List<Integer> row : rows) {
            for (int value : values) {
                List<Integer> longer = new ArrayList<>(row);
                longer.add(value);
                result.add(longer);
            }
        }
        return result;
    }

    private static List<Integer> values(String text) {
        List<Integer> values = new ArrayList<>();
        for (String choice : text.split("\\|")) {
            String[] ends = choice.split("\\.\\.");
            int last = number(ends[ends.length - 1]);
            for (long value = number(ends[0]); value <= last; value++) values.add((int) value);
        }
        return values;
    }

    private static int number(String text) {
        switch (text.trim()) {
            case "NONE": return SharedLog.NONE;
            case "LEAST": return Integer.MIN_VALUE;
            case "MOST": return Integer.MAX_VALUE;
            default: return (int) (long) Long.decode(text.trim());
        }
    }

    /** The answer as a text: a number, or "! " and the kind of the exception. */
    String on(SharedLog log) {
        try {
            return String.valueOf(FACE.get(name).invoke(log, arguments));
        } catch (InvocationTargetException e) {
            return "! " + kind(e.getCause());
        } catch (IllegalAccessException e) {
            throw new AssertionError(e);
        }
    }

    /** An exception that no statement of the class throws is the machine's, whatever its name. */
    private static String kind(Throwable thrown) {
        StackTraceElement[] trace = thrown.getStackTrace();
        boolean own = trace.length > 0 && trace[0].getClassName().startsWith("SharedLog");
        if (own && thrown.getClass() == IndexOutOfBoundsException.class) return "index";
        if (own && thrown.getClass() == IllegalArgumentException.class) return "argument";
        if (own && thrown.getClass() == IllegalStateException.class) return "state";
        if (own && thrown.getClass() == NoSuchElementException.class) return "element";
        return "not the document's: " + thrown;
    }

    boolean is(String method) {
        return name.equals(method);
    }

    @Override
    public String toString() {
        String list = Arrays.toString(arguments);
        return name + "(" + list.substring(1, list.length() - 1) + ")";
    }
}
