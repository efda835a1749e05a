import java.util.concurrent.Callable;

/** Counts the answers that are not as due, and prints each of them. */
final class Check {
    private int wrong;
    private String part = "";

    void part(String name) {
        part = name;
    }

    void due(String call, Object got, Object want) {
        if (!want.equals(got)) {
            wrong++;
            System.out.println(part + ": " + call + " answered " + got + ", due is " + want);
        }
    }

    void answers(String call, Object want, Callable<Object> action) {
        due(call, outcome(action), want);
    }

    /** Index, argument, state and element stand for the four exceptions that the document names. */
    void refuses(String call, String kind, Callable<Object> action) {
        due(call, outcome(action), "throws " + kind);
    }

    private static Object outcome(Callable<Object> action) {
        try {
            return action.call();
        } catch (Exception e) {
            if (e.getClass() == IndexOutOfBoundsException.class) return "throws index";
            if (e.getClass() == IllegalArgumentException.class) return "throws argument";
            if (e.getClass() == IllegalStateException.class) return "throws state";
            if (e.getClass() == java.util.NoSuchElementException.class) return "throws element";
            return "throws " + e;
        }
    }

    void end() {
        if (wrong > 0) {
            System.out.println(wrong + " answers are not as due");
            System.exit(1);
        }
    }
}
