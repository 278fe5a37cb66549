import java.lang.reflect.Method;
import java.util.ArrayList;
import java.util.List;
import java.util.regex.Matcher;
import java.util.regex.Pattern;

/** A FeatherTasks whose calls are told in a line such as "ride(0)=3 ride(0)=NO", and are never more than 512. */
final class Told {
    private static final int MOST_CALLS = 512;
    private static final String NUMBER = "-?\\d+";
    private static final Pattern CALL =
        Pattern.compile("\\s*(\\w+)\\(((?:" + NUMBER + ",?)*)\\)=(BAD|NONE|NO|FULL|" + NUMBER + ")\\s*");

    private final FeatherTasks x = new FeatherTasks();
    private final Due due;
    private int calls;

    Told(Due due) {
        this.due = due;
    }

    /** What is told in a text, laid; with an empty one the first months stay. */
    static Told laid(Due due, String text) {
        Told told = new Told(due);
        if (!text.isEmpty()) {
            told.writes(text);
            due.holds("lay() of " + text, told.answer("lay") > 0);
        }
        return told;
    }

    void writes(String text) {
        for (int i = 0; i < text.length(); i++) {
            due.answer("write of letter " + i + " of " + text, answer("write", text.charAt(i)), i + 1);
        }
    }

    /** Makes the calls of a line, and holds each answer against the one behind its =. */
    void calls(String line) {
        Matcher m = CALL.matcher(line);
        int at = 0;
        while (at < line.length()) {
            if (!m.find(at) || m.start() != at) {
                throw new IllegalArgumentException("no calls from " + at + " on: " + line);
            }
            due.answer(m.group().trim() + " in [" + line + "]", answer(m.group(1), numbers(m.group(2))), number(m.group(3)));
            at = m.end();
        }
    }

    /** The answer to one call, told as "ride(0)". */
    int answerTo(String call) {
        Matcher m = CALL.matcher(call + "=0");
        if (!m.matches()) {
            throw new IllegalArgumentException("no call: " + call);
        }
        return answer(m.group(1), numbers(m.group(2)));
    }

    private static int number(String told) {
        switch (told) {
            case "BAD": return FeatherTasks.BAD;
            case "NO": return FeatherTasks.NO;
            case "FULL": return FeatherTasks.FULL;
            case "NONE": return FeatherTasks.NONE;
            default: return Integer.parseInt(told);
        }
    }

    private static int[] numbers(String told) {
        return told.isEmpty() ? new int[0] : Pattern.compile(",").splitAsStream(told).mapToInt(Integer::parseInt).toArray();
    }

    private int answer(String name, int... numbers) {
        calls++;
        if (calls > MOST_CALLS) {
            throw new IllegalStateException("more than 512 calls");
        }
        for (Method method : FeatherTasks.class.getMethods()) {
            if (method.getName().equals(name) && method.getParameterCount() == numbers.length) {
                return answerOf(method, numbers);
            }
        }
        throw new IllegalArgumentException("no call " + name + " of " + numbers.length);
    }

    private int answerOf(Method method, int... numbers) {
        Object[] boxed = new Object[numbers.length];
        for (int i = 0; i < numbers.length; i++) {
            boxed[i] = numbers[i];
        }
        try {
            return (Integer) method.invoke(x, boxed);
        } catch (ReflectiveOperationException thrown) {
            throw new IllegalStateException(method.getName() + " threw " + thrown.getCause());
        }
    }

    /** All that can be seen of how it stands, then as all is undone that can be, then as all comes back that is kept. */
    List<String> portraits() {
        List<String> all = new ArrayList<>();
        all.add("months " + months());
        all.add("now " + standing());
        int left = 1;
        // More turns than can be, so that one too many shows.
        for (int turn = 0; turn < 12 && left >= 0; turn++) {
            left = answer("undo");
            all.add("undo " + left + counts() + answer("mayCome"));
        }
        left = 1;
        for (int turn = 0; turn < 5 && left >= 0; turn++) {
            left = answer("back");
            all.add("back " + left + standing());
        }
        all.add("rows " + answer("rows", 0) + " forget " + answer("forget") + " fault " + answer("fault"));
        return all;
    }

    private String months() {
        StringBuilder all = new StringBuilder();
        int tasks = answer("count", 0);
        int helpers = answer("count", 1);
        for (int t = 0; t < tasks; t++) {
            for (int what = 0; what < 4; what++) {
                all.append(answer("task", t, what)).append(' ');
            }
        }
        for (int h = 0; h < helpers; h++) {
            all.append(answer("helper", h, 0)).append(' ').append(answer("helper", h, 1)).append(' ');
        }
        return all.toString();
    }

    private String counts() {
        StringBuilder all = new StringBuilder(" counts ");
        for (int what = 0; what < 12; what++) {
            all.append(answer("count", what)).append(' ');
        }
        return all.toString();
    }

    private String standing() {
        StringBuilder all = new StringBuilder(counts()).append("help ");
        int tasks = answer("count", 0);
        int helpers = answer("count", 1);
        for (int t = 0; t < tasks; t++) {
            all.append(answer("help", t)).append(' ');
        }
        all.append("helpers ");
        for (int h = 0; h < helpers; h++) {
            all.append(answer("helper", h, 2)).append(answer("helper", h, 3)).append(' ');
        }
        return all.append(answer("mayCome")).append(' ').append(answer("rows", 0)).toString();
    }
}
