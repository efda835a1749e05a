import java.util.ArrayList;
import java.util.List;

/**
 * A run of calls on a new object, a row each:
 * "commit(0) = 2" has an answer; with several calls there are as many answers, or one for all;
 * "commit(4) ! index" is refused, and is looked at for having changed nothing;
 * "begin()" has any answer, but is not refused;
 * "say begin;" puts a text into the buffer.
 */
final class Run {
    private static final int MOST_CALLS = 512;

    private final Check check;
    private final SharedLog log = new SharedLog();
    private final List<Call> done = new ArrayList<>();
    private int buffered;

    Run(Check check, String... rows) {
        this.check = check;
        for (String row : rows) obey(row);
        check.due("an object's calls are at most 512, but were " + done.size(), done.size() <= MOST_CALLS, true);
    }

    /** The calls that were made, for another object. */
    List<Call> calls() {
        return new ArrayList<>(done);
    }

    int buffered() {
        return buffered;
    }

    private void obey(String row) {
        if (row.startsWith("say ")) {
            say(row.substring(4));
            return;
        }
        int answer = row.indexOf(" = ");
        int refusal = row.indexOf(" ! ");
        if (refusal >= 0) {
            refuse(Call.read(row.substring(0, refusal)), row.substring(refusal + 1));
        } else if (answer >= 0) {
            answer(Call.read(row.substring(0, answer)), answers(row.substring(answer + 3)), row);
        } else {
            for (Call call : Call.read(row)) check.due(call + " is refused", make(call).startsWith("!"), false);
        }
    }

    private String make(Call call) {
        String answer = call.on(log);
        done.add(call);
        boolean isLength = call.is("append") || call.is("truncate");
        if (isLength && !answer.startsWith("!")) buffered = Integer.parseInt(answer);
        if (call.is("run")) buffered = 0;
        return answer;
    }

    private void answer(List<Call> calls, List<String> due, String row) {
        check.due("the answers told for " + row, due.size() == 1 || due.size() == calls.size(), true);
        for (int n = 0; n < calls.size(); n++) {
            check.due(calls.get(n).toString(), make(calls.get(n)), due.get(due.size() == 1 ? 0 : n));
        }
    }

    private void refuse(List<Call> calls, String due) {
        List<String> before = Everything.after(calls());
        for (Call call : calls) check.due(call.toString(), make(call), due);
        List<String> after = Everything.after(calls());
        check.due("a refused call changed nothing: " + calls, firstChange(before, after), "nothing");
    }

    static String firstChange(List<String> before, List<String> after) {
        for (int n = 0; n < before.size() && n < after.size(); n++) {
            if (!before.get(n).equals(after.get(n))) return before.get(n) + " became " + after.get(n);
        }
        return before.size() == after.size() ? "nothing" : "the number of answers";
    }

    /** Answers behind one another, with ranges (0..9), and shares (1/3) as floats. */
    private static List<String> answers(String text) {
        List<String> answers = new ArrayList<>();
        for (String part : text.trim().split(" +")) {
            int dots = part.indexOf("..");
            int slash = part.indexOf('/');
            if (dots > 0) {
                int last = Integer.parseInt(part.substring(dots + 2));
                for (int n = Integer.parseInt(part.substring(0, dots)); n <= last; n++) answers.add(String.valueOf(n));
            } else if (slash > 0) {
                float whole = Integer.parseInt(part.substring(slash + 1));
                answers.add(String.valueOf(Integer.parseInt(part.substring(0, slash)) / whole));
            } else {
                answers.add(part.equals("NONE") ? String.valueOf(SharedLog.NONE) : part);
            }
        }
        return answers;
    }

    private void say(String text) {
        int length = buffered + text.length();
        for (int from = 0; from < text.length(); from += 20) {
            Integer[] words = {0, 0, 0, 0, 0};
            for (int k = 0; k < 20; k++) {
                char sign = from + k < text.length() ? text.charAt(from + k) : ' ';
                words[k / 4] = words[k / 4] << 8 | sign & 255;
            }
            make(new Call("append", words));
        }
        check.due("the length of the text", make(new Call("truncate", length)), String.valueOf(length));
    }
}
