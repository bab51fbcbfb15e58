/** What the tests share: they count wrong answers and make budgets from texts. */
final class Checks {
    static final String OUT = "IndexOutOfBoundsException";
    static final String ILLEGAL = "IllegalArgumentException";

    interface Call {
        Object answer();
    }

    private int right;
    private int wrong;

    /** Compares an answer with the due one; integers of all widths count alike. */
    void due(String call, Object got, Object want) {
        if (wide(got).equals(wide(want))) {
            right++;
        } else {
            wrong++;
            System.out.println(call + " answered " + got + ", due is " + want);
        }
    }

    void dueThrows(String call, String exception, Call made) {
        due(call, outcome(made), exception);
    }

    /** Ends the test's machine with exit code 1 if an answer was wrong. */
    void end(String test) {
        System.out.println(test + ": " + right + " answers as due, " + wrong + " not");
        if (wrong != 0) {
            System.exit(1);
        }
    }

    /** The answer, or the simple name of what was thrown. */
    static Object outcome(Call made) {
        try {
            return wide(made.answer());
        } catch (RuntimeException thrown) {
            return thrown.getClass().getSimpleName();
        }
    }

    private static Object wide(Object answer) {
        return answer instanceof Integer ? (Object) Long.valueOf((Integer) answer) : answer;
    }

    static EnvelopeBudget budget(String text) {
        EnvelopeBudget x = new EnvelopeBudget();
        load(x, text);
        return x;
    }

    static int load(EnvelopeBudget x, String text) {
        type(x, text);
        return x.load();
    }

    static void type(EnvelopeBudget x, String text) {
        for (int i = 0; i < text.length(); i += 8) {
            x.append(packed(text.substring(i, Math.min(text.length(), i + 8))));
        }
    }

    static long packed(String upTo8) {
        long bytes = 0;
        for (int i = 0; i < upTo8.length(); i++) {
            bytes = bytes << 8 | upTo8.charAt(i);
        }
        return bytes;
    }

    static String repeated(String part, int times) {
        StringBuilder all = new StringBuilder();
        for (int i = 0; i < times; i++) {
            all.append(part);
        }
        return all.toString();
    }
}
