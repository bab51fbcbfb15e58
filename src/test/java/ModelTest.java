import java.lang.reflect.InvocationTargetException;
import java.lang.reflect.Method;

/** Makes the same calls, drawn by a fixed rule, on the budget and on the model, and compares all answers. */
final class ModelTest {
    private static final int RUNS = 600;

    /** Nothing is promised of an object behind its 512th call. */
    private static final int MOST_CALLS = 512;

    /**
     * The calls with the kinds of their arguments: a account, e envelope, f fund, i income, b bill, p person,
     * q envelope or pool, m amount, s signed amount, d days ahead, r days to run, t days to postpone, u a day,
     * v an interval, k small number, g set of people, x slot. A number ahead of a name tells how often it is drawn.
     */
    private static final String[] CALLS_OF_THE_FACE = {
        "1 loadError", "1 loadStatement", "4 count k", "1 day", "1 pool", "3 account a", "4 envelope e k",
        "1 tree e", "1 inside e", "4 fund f k", "2 income i k", "3 bill b k", "2 need f", "1 isBalanced",
        "9 run r", "3 allot", "6 spend e a m", "5 shift q q m", "5 give f s", "3 transfer a a m", "4 deposit a m",
        "2 setMonthly e m", "2 setMode e k m", "2 setTarget f m", "5 addBill e a m u v", "2 dropBill b", "5 pay b",
        "5 share p a e m g", "5 share p n e m g", "4 settle p p a m", "2 net p", "2 transfers", "4 transferPart k k",
        "6 undo", "6 logPart l k", "2 tightest d k", "2 accountLow a d", "2 shortDay e d", "2 poolLow d",
        "3 fundLack f", "2 billsWithin d", "1 safe d", "1 enough e", "1 spentPerDay e", "1 filled f", "3 cover e",
        "1 lacks", "3 postpone b t", "3 dueNext k", "2 bestDay m d", "1 saveSnapshot x", "1 restoreSnapshot x"};

    private static final Checks checks = new Checks();
    private static long seed = 20261119;

    private static int draw(int bound) {
        seed = seed * 6364136223846793005L + 1442695040888963407L;
        return (int) ((seed >>> 33) % bound);
    }

    public static void main(String[] args) throws ReflectiveOperationException {
        for (int run = 0; run < RUNS; run++) {
            compare(run);
        }
        checks.end("ModelTest");
    }

    private static void compare(int run) throws ReflectiveOperationException {
        EnvelopeBudget x = new EnvelopeBudget();
        Model model = new Model();
        int rareness = run % 4 == 0 ? 20 : 250;
        int left = MOST_CALLS - load(x, model, "run " + run + " load", run % 3);
        for (int i = 0; left > 0; i++, left--) {
            if (left > 150 && draw(rareness) == 0) {
                left -= load(x, model, "run " + run + " load", run % 3);
            }
            String[] call = drawnCall();
            Object[] given = new Object[call.length - 2];
            for (int k = 0; k < given.length; k++) {
                given[k] = argument(call[k + 2].charAt(0), model);
            }
            StringBuilder told = new StringBuilder("run " + run + " call " + i + " " + call[1]);
            for (Object one : given) {
                told.append(' ').append(one);
            }
            checks.due(told.toString(), answer(x, call[1], given), answer(model, call[1], given));
        }
    }

    private static String[] drawnCall() {
        int left = draw(170);
        for (String one : CALLS_OF_THE_FACE) {
            String[] call = one.split(" ");
            left -= Integer.parseInt(call[0]);
            if (left < 0) {
                return call;
            }
        }
        return CALLS_OF_THE_FACE[draw(CALLS_OF_THE_FACE.length)].split(" ");
    }

    private static Object answer(Object budget, String name, Object... given) throws ReflectiveOperationException {
        Class<?>[] kinds = new Class<?>[given.length];
        for (int i = 0; i < kinds.length; i++) {
            kinds[i] = given[i] instanceof Long ? long.class : int.class;
        }
        Method method = budget.getClass().getMethod(name, kinds);
        method.setAccessible(true);
        try {
            return method.invoke(budget, given);
        } catch (InvocationTargetException thrown) {
            return thrown.getCause().getClass().getSimpleName();
        }
    }

    private static int index(int count) {
        int chance = draw(40);
        return chance == 0 ? draw(2000000000) : chance == 1 ? -draw(2000000000) : chance < 4 ? draw(count + 4) - 2
            : count == 0 ? 0 : draw(count);
    }

    private static Object argument(char kind, Model model) {
        int chance = draw(50);
        int[] odd = {0, -1, 1, 1000000, 1000001, -1000000, -1000001, 2000, 2001, 400, 401, 60, 61, 20000, 20001};
        if (chance == 0 && "aefibpqn".indexOf(kind) < 0) {
            return odd[draw(odd.length)];
        }
        switch (kind) {
            case 'a': return index(model.count(0));
            case 'e': return index(model.count(1));
            case 'f': return index(model.count(2));
            case 'i': return index(model.count(3));
            case 'b': return index(model.count(4));
            case 'p': return index(model.count(5));
            case 'q': return draw(3) == 0 ? -1 : index(model.count(1));
            case 'n': return chance == 1 ? draw(7) - 3 : -1;
            case 'm': return amount();
            case 's': return draw(3) == 0 ? -amount() : amount();
            case 'd': return draw(12) == 0 ? 2000 - draw(3) : draw(90);
            case 'r': return draw(4) == 0 ? 400 - draw(5) : 1 + draw(40);
            case 't': return 1 + draw(60);
            case 'u': return chance == 1 ? 20000 : model.day() + draw(60);
            case 'v': return draw(3) == 0 ? 0 : draw(45);
            case 'k': return draw(10) == 0 ? draw(14) - 3 : draw(5);
            case 'l': return draw(44) - 1;
            case 'g': return chance == 1 ? draw(300) - 100 : 1 + draw((1 << model.count(5)) - 1);
            default: return chance == 1 ? draw(5) - 2 : draw(2);
        }
    }

    private static int amount() {
        int kind = draw(10);
        return 1 + (kind < 6 ? draw(300) : kind < 9 ? draw(4000) : draw(1000000));
    }

    /** Returns how many calls it made. */
    private static int load(EnvelopeBudget x, Model model, String told, int style) throws ReflectiveOperationException {
        String text = style == 2 ? spoilt(description(1 + draw(12))) : description(40);
        for (int i = 0; i < text.length(); i += 8) {
            long bytes = Checks.packed(text.substring(i, Math.min(text.length(), i + 8)));
            checks.due(told + " append", answer(x, "append", bytes), answer(model, "append", bytes));
        }
        for (String name : new String[] {"load", "loadError", "loadStatement"}) {
            checks.due(told + " " + name + " of " + text, answer(x, name), answer(model, name));
        }
        return (text.length() + 7) / 8 + 3;
    }

    private static String number(int low, int high) {
        int chance = draw(60);
        return String.valueOf(chance == 0 ? high : chance == 1 ? low : low + draw(Math.max(1, high - low + 1)));
    }

    /** A description that has no error as long as it is not spoilt. */
    private static String description(int statements) {
        StringBuilder all = new StringBuilder("account " + number(0, 5000));
        int[] counts = {1, 0, 0, 0, 0};
        int[] most = {4, 10, 6, 4, 12};
        for (int i = 0; i < statements && all.length() < 850; i++) {
            int kind = draw(6);
            if (kind < 5 && counts[kind] >= most[kind] || kind == 4 && counts[1] == 0) {
                continue;
            }
            String account = number(0, counts[0] - 1);
            String days = " " + number(1, 70) + " " + (draw(3) == 0 ? "0" : number(0, 50));
            switch (kind) {
                case 0: all.append(";account ").append(number(0, 5000)); break;
                case 1:
                    all.append(";envelope ").append(number(0, 300)).append(' ').append(number(0, 2));
                    all.append(' ').append(number(0, 500));
                    all.append(counts[1] > 0 && draw(3) > 0 ? " in " + number(0, counts[1] - 1) : "");
                    break;
                case 2: all.append(";fund ").append(number(1, 900)).append(days).append(' ').append(account); break;
                case 3: all.append(";income ").append(account).append(' ').append(number(1, 900)).append(days); break;
                case 4:
                    all.append(";bill ").append(number(0, counts[1] - 1)).append(' ').append(account).append(' ');
                    all.append(number(1, 300)).append(days);
                    break;
                default: all.append(";people ").append(number(1, 6)); break;
            }
            if (kind < 5) {
                counts[kind]++;
            }
        }
        return all.toString();
    }

    /** Changes, takes away or repeats some pieces of a text. */
    private static String spoilt(String text) {
        StringBuilder all = new StringBuilder(text);
        String[] pieces = {";", " ", "  ", "0", "9", "1000001", "20001", "in", " in 0", "account", ";account 1",
            ";envelope 1 1 1", "x", "A", "-", ";;", "\n", "\u00e9", ";fund 1 1 1 0", "people", "401", "000", "bill"};
        for (int i = draw(4); i >= 0 && all.length() < 700; i--) {
            int at = draw(all.length() + 1);
            int chance = draw(4);
            if (chance == 0 && at < all.length()) {
                all.deleteCharAt(at);
            } else if (chance == 1) {
                all.setLength(at);
            } else {
                all.insert(at, Checks.repeated(pieces[draw(pieces.length)], draw(12) == 0 ? 11 : 1));
            }
            if (all.length() == 0) {
                all.append(' ');
            }
        }
        return all.toString();
    }
}
