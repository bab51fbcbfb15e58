import java.lang.reflect.InvocationTargetException;
import java.lang.reflect.Method;
import java.util.ArrayList;
import java.util.HashMap;
import java.util.List;
import java.util.Map;

/** Calls on a new budget, each told as a text such as "spend 0 1 55", so that a twin can make all of them again. */
final class Run {
    static final String OUT = Checks.OUT;
    static final String ILLEGAL = Checks.ILLEGAL;
    static final int NONE = -1;
    static final int FULL = -2;
    static final long LACK = -3000000000000L;
    static final int GONE = -2000000001;
    static final long NO_VALUE = -4000000000000L;
    static final long LEAST = Integer.MIN_VALUE;
    static final long MOST = Integer.MAX_VALUE;

    /** Nothing is promised of an object behind its 512th call. */
    private static final int MOST_CALLS = 512;

    private static final Map<String, Method> METHODS = methods();

    private final EnvelopeBudget budget = new EnvelopeBudget();
    private final List<String> made = new ArrayList<>();

    /** A budget with a description that must have no error. */
    static Run of(String description) {
        Run x = new Run().type(description);
        x.make("load");
        return x.due("loadError", 0);
    }

    private static Map<String, Method> methods() {
        Map<String, Method> all = new HashMap<>();
        for (Method method : EnvelopeBudget.class.getMethods()) {
            if (method.getDeclaringClass() == EnvelopeBudget.class) {
                all.put(method.getName(), method);
            }
        }
        return all;
    }

    /** What a call answers, integers of all widths alike, or the simple name of what it throws. */
    Object answer(String call) {
        if (made.size() == MOST_CALLS) {
            throw new IllegalStateException("the test makes a 513th call: " + call);
        }
        made.add(call);
        String[] words = call.split(" ");
        Method method = METHODS.get(words[0]);
        Object[] given = new Object[words.length - 1];
        for (int i = 0; i < given.length; i++) {
            long number = Long.parseLong(words[i + 1]);
            given[i] = method.getParameterTypes()[i] == long.class ? (Object) number : (Object) Math.toIntExact(number);
        }
        try {
            Object answer = method.invoke(budget, given);
            return answer instanceof Integer ? (Object) ((Integer) answer).longValue() : answer;
        } catch (InvocationTargetException thrown) {
            return thrown.getCause().getClass().getSimpleName();
        } catch (IllegalAccessException never) {
            throw new IllegalStateException(never);
        }
    }

    int callsMade() {
        return made.size();
    }

    Run twin() {
        Run other = new Run();
        for (String call : made) {
            other.answer(call);
        }
        return other;
    }

    Run type(String text) {
        for (int i = 0; i < text.length(); i += 8) {
            answer("append " + Checks.packed(text.substring(i, Math.min(text.length(), i + 8))));
        }
        return this;
    }

    /** Makes calls that must not throw; their answers are looked at elsewhere. */
    Run make(String... calls) {
        for (String call : calls) {
            Object got = answer(call);
            Cases.right(!(got instanceof String), this + " throws " + got);
        }
        return this;
    }

    Run repeat(int times, String call) {
        for (int i = 0; i < times; i++) {
            make(call);
        }
        return this;
    }

    Run due(String call, Object answer) {
        Object got = answer(call);
        Object want = answer instanceof Integer ? (Object) ((Integer) answer).longValue() : answer;
        Cases.right(got.equals(want), this + " answers " + got + ", due is " + want);
        return this;
    }

    /** All numbers of one thing: those that its call tells with 0, 1, 2 and so on behind it. */
    Run row(String call, long... answers) {
        for (int what = 0; what < answers.length; what++) {
            due(call + " " + what, answers[what]);
        }
        return this;
    }

    /** The same of each thing of a kind: what the call tells with 0, 1, 2 and so on in the place of #. */
    Run each(String call, long... answers) {
        for (int i = 0; i < answers.length; i++) {
            due(call.replace("#", String.valueOf(i)), answers[i]);
        }
        return this;
    }

    /** A call with a due answer that changes nothing that later calls could show. */
    Run unchanged(String call, Object answer) {
        Run without = twin();
        due(call, answer);
        return alike(without);
    }

    /** A call that is refused for each of some values in the place of #. */
    Run refused(String call, Object answer, long... values) {
        for (long value : values) {
            unchanged(call.replace("#", String.valueOf(value)), answer);
        }
        return this;
    }

    /** An action that counts as one, and of which nothing is left once it was taken back. */
    Run undone(String call) {
        Run with = twin();
        long actions = (Long) with.answer("count 6");
        with.make(call);
        with.due("count 6", actions + 1).due("undo", actions);
        return with.alike(this);
    }

    /** Compares what all later calls answer here and there, but for some parts. */
    Run alike(Run other, Later.Part... except) {
        List<Later.Part> left = List.of(except);
        for (Later.Part part : Later.Part.values()) {
            String here = Later.told(twin(), part);
            String there = Later.told(other.twin(), part);
            if (!left.contains(part)) {
                Cases.right(here.equals(there), this + " leaves " + part + "\n    " + here + "\n  due is\n    " + there);
            }
        }
        return this;
    }

    Run differs(Run other, Later.Part part) {
        Cases.right(!Later.told(twin(), part).equals(Later.told(other.twin(), part)), this + " changes " + part);
        return this;
    }

    /** The latest calls, to tell where something was wrong. */
    @Override
    public String toString() {
        int from = Math.max(0, made.size() - 12);
        return (from > 0 ? "..; " : "") + String.join("; ", made.subList(from, made.size()));
    }
}
