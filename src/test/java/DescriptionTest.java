/** Promises 1 to 6: a new object, the buffer, descriptions and their errors. */
final class DescriptionTest {
    private static final Checks checks = new Checks();

    public static void main(String[] args) {
        newObject();
        append();
        load();
        values();
        misplaced();
        outOfRange();
        tooMany();
        loadStatement();
        loadBeginsAnew();
        count();
        checks.end("DescriptionTest");
    }

    private static void newObject() {
        EnvelopeBudget x = new EnvelopeBudget();
        for (int what = 0; what < 8; what++) {
            checks.due("new count " + what, x.count(what), what == 5 ? 1 : 0);
        }
        checks.due("new day", x.day(), 0);
        checks.due("new pool", x.pool(), 0);
        checks.due("new loadError", x.loadError(), 0);
        checks.due("new loadStatement", x.loadStatement(), EnvelopeBudget.NONE);
        checks.due("new net", x.net(0), 0);
        checks.due("new buffer", x.append(0), 0);
        checks.due("new snapshot 0", x.restoreSnapshot(0), EnvelopeBudget.NONE);
        checks.due("new snapshot 1", x.restoreSnapshot(1), EnvelopeBudget.NONE);
        checks.due("new undo", x.undo(), EnvelopeBudget.NONE);
    }

    private static void append() {
        EnvelopeBudget x = new EnvelopeBudget();
        checks.due("append a byte", x.append('p'), 1);
        checks.due("append with zeros within", x.append(0x6500006f00700000L), 4);
        checks.due("append nothing", x.append(0), 4);
        checks.due("append le 6", x.append(Checks.packed("le 6")), 8);
        checks.due("load people 6", x.load(), 0);
        checks.due("people", x.count(5), 6);
        checks.due("append a negative number", x.append(-1), 8);
        checks.due("bytes above 127 stand nowhere", x.load(), -100);
        for (int i = 1; i <= 112; i++) {
            checks.due("append 8 spaces", x.append(0x2020202020202020L), i * 8);
        }
        checks.due("append beyond 900", x.append(0x2020202020L), EnvelopeBudget.FULL);
        checks.due("append up to 900", x.append(0x20202020L), 900);
        checks.due("append one more", x.append(0x20), EnvelopeBudget.FULL);
        checks.due("append a byte 1", x.append(1), EnvelopeBudget.FULL);
        checks.due("append a first byte", x.append(1L << 63), EnvelopeBudget.FULL);
        checks.due("append nothing to a full buffer", x.append(0), 900);
        checks.due("load 900 spaces", x.load(), -1000);
        checks.due("the buffer is empty then", x.append(0), 0);
    }

    private static void error(String text, int kind, int position, int statement) {
        EnvelopeBudget x = new EnvelopeBudget();
        checks.due("load " + text, Checks.load(x, text), -100 - position);
        checks.due("loadError " + text, x.loadError(), kind);
        checks.due("loadStatement " + text, x.loadStatement(), statement);
        checks.due("buffer behind " + text, x.append(0), 0);
    }

    private static void fine(String text, int envelopes) {
        EnvelopeBudget x = new EnvelopeBudget();
        checks.due("load " + text, Checks.load(x, text), envelopes);
        checks.due("loadError " + text, x.loadError(), 0);
        checks.due("loadStatement " + text, x.loadStatement(), EnvelopeBudget.NONE);
    }

    private static void load() {
        fine("people 1", 0);
        fine("people1", 0);
        fine("  people   3  ;  people 2  ", 0);
        fine("account0;envelope0 0 0;envelope1 2 3in0", 2);
        fine("envelope 1 1 1 ; envelope 1 1 1 in 0 ;envelope 1 1 1 in 1;envelope 1 1 1 in 1", 4);
    }

    private static void values() {
        EnvelopeBudget x = Checks.budget("account 1000000;account 0007;envelope 1000000 2 1000000;"
                + "envelope 0 0 0 in 0;fund 1000000 20000 400 1;fund 1 1 0 0;income 1 1000000 20000 400;"
                + "income 0 1 1 0;bill 1 0 1000000 20000 400;people 2;bill 0 1 1 1 0;people 4");
        checks.due("loadError of the limits", x.loadError(), 0);
        checks.due("pool", x.pool(), 1000007);
        checks.due("account 1", x.account(1), 7);
        checks.due("people", x.count(5), 4);
        long[][] envelopes = {{0, 1000000, 2, 1000000, -1, 0, 0}, {0, 0, 0, 0, 0, 0, 1}};
        long[][] funds = {{0, 1000000, 20000, 400, 1, 0}, {0, 1, 1, 0, 0, 0}};
        int[][] incomes = {{1, 1000000, 20000, 400}, {0, 1, 1, 0}};
        int[][] bills = {{1, 0, 1000000, 20000, 400}, {0, 1, 1, 1, 0}};
        for (int i = 0; i < 2; i++) {
            for (int what = 0; what < 7; what++) {
                checks.due("envelope " + i + " " + what, x.envelope(i, what), envelopes[i][what]);
            }
            for (int what = 0; what < 6; what++) {
                checks.due("fund " + i + " " + what, x.fund(i, what), funds[i][what]);
            }
            for (int what = 0; what < 4; what++) {
                checks.due("income " + i + " " + what, x.income(i, what), incomes[i][what]);
            }
            for (int what = 0; what < 5; what++) {
                checks.due("bill " + i + " " + what, x.bill(i, what), bills[i][what]);
            }
        }
    }

    private static void misplaced() {
        error("", 1, 0, 0);
        error("   ", 1, 3, 0);
        error(";", 1, 0, 0);
        error("account", 1, 7, 0);
        error("account  ", 1, 9, 0);
        error("account 5;", 1, 10, 1);
        error("account 5; ;", 1, 11, 1);
        error("accounts 5", 1, 0, 0);
        error(" accoun 5", 1, 1, 0);
        error("Account 5", 1, 0, 0);
        error("accounT 5", 1, 0, 0);
        error("accountz 5", 1, 0, 0);
        error("account, 5", 1, 7, 0);
        error("account -5", 1, 8, 0);
        error("account 5 6", 1, 10, 0);
        error("account 5 account 6", 1, 10, 0);
        error("account five", 1, 8, 0);
        error("account 5.", 1, 9, 0);
        error("account 5\n", 1, 9, 0);
        error("account\t5", 1, 7, 0);
        error("account 5" + (char) 160, 1, 9, 0);
        error("5", 1, 0, 0);
        error("in 0", 1, 0, 0);
        error("envelope 1 1", 1, 12, 0);
        error("envelope 1 1 1 at 0", 1, 15, 0);
        error("envelope 1 1 1 into 0", 1, 15, 0);
        error("envelope 1 1 1;envelope 1 1 1 in", 1, 32, 1);
        error("envelope 1 1 1;envelope 1 1 1 in;", 1, 32, 1);
        error("envelope 1 1 1;envelope 1 1 1 in in 0", 1, 33, 1);
        error("envelope 1 1 1;envelope 1 1 1 in 0 in 0", 1, 35, 1);
        error("envelope 1 1 1 0", 1, 15, 0);
        error("fund 5 5 5", 1, 10, 0);
        error("people 3 people", 1, 9, 0);
    }

    private static void outOfRange() {
        error("account 1000001", 2, 8, 0);
        error("account 99999999999999999999999999", 2, 8, 0);
        error("account 18446744073709551621", 2, 8, 0);
        error("account 4294967301", 2, 8, 0);
        error("account 1000001x", 2, 8, 0);
        error("envelope 1000001 0 0", 2, 9, 0);
        error("envelope 1 3 0", 2, 11, 0);
        error("envelope 1 2 1000001", 2, 13, 0);
        error("envelope 1 1 0 in 0", 2, 18, 0);
        error("envelope 1 1 0;envelope 1 1 0 in 1", 2, 33, 1);
        String account = "account 5;";
        error(account + "fund 0 1 1 0", 2, 15, 1);
        error(account + "fund 1000001 1 1 0", 2, 15, 1);
        error(account + "fund 1 0 1 0", 2, 17, 1);
        error(account + "fund 1 20001 1 0", 2, 17, 1);
        error(account + "fund 1 1 401 0", 2, 19, 1);
        error(account + "fund 1 1 1 1", 2, 21, 1);
        error("fund 1 1 1 0", 2, 11, 0);
        error("income 0 1 1 1", 2, 7, 0);
        error(account + "income 1 1 1 1", 2, 17, 1);
        error(account + "income 0 0 1 1", 2, 19, 1);
        error(account + "income 0 1000001 1 1", 2, 19, 1);
        error(account + "income 0 1 0 1", 2, 21, 1);
        error(account + "income 0 1 20001 1", 2, 21, 1);
        error(account + "income 0 1 1 401", 2, 23, 1);
        String both = "account 5;envelope 0 0 0;";
        error("bill 0 0 1 1 1", 2, 5, 0);
        error("envelope 0 0 0;bill 0 0 1 1 1", 2, 22, 1);
        error(both + "bill 1 0 1 1 1", 2, 30, 2);
        error(both + "bill 0 1 1 1 1", 2, 32, 2);
        error(both + "bill 0 0 0 1 1", 2, 34, 2);
        error(both + "bill 0 0 1000001 1 1", 2, 34, 2);
        error(both + "bill 0 0 1 0 1", 2, 36, 2);
        error(both + "bill 0 0 1 20001 1", 2, 36, 2);
        error(both + "bill 0 0 1 1 401", 2, 38, 2);
        error("people 0", 2, 7, 0);
        error("people 7", 2, 7, 0);
        fine("people " + Checks.repeated("0", 300) + "6", 0);
    }

    private static void tooMany() {
        full("account 1;", 4, "account");
        full("envelope 1 1 1;", 10, "envelope");
        full("fund 1 1 1 0;", 6, "fund");
        full("income 0 1 1 1;", 4, "income");
        full("bill 0 0 1 1 1;", 12, "bill");
        fine(Checks.repeated("people 3;", 98) + "people 4", 0);
    }

    /** The one too many has an error of its own behind its word, which comes too late. */
    private static void full(String statement, int most, String word) {
        String before = word.equals("account") || word.equals("envelope") ? "" : "account 1;envelope 1 1 1;";
        String text = before + Checks.repeated(statement, most);
        fine(text.substring(0, text.length() - 1), word.equals("envelope") ? 10 : before.isEmpty() ? 0 : 1);
        error(text + " " + word, 3, text.length() + 1, most + (before.isEmpty() ? 0 : 2));
        error(text + word + " x", 3, text.length(), most + (before.isEmpty() ? 0 : 2));
    }

    private static void loadStatement() {
        error("account 5;account 6;account x", 1, 28, 2);
        error("account 5;account 6x", 1, 19, 1);
        error("account 5;account 6;", 1, 20, 2);
        error("account 5;;account 6", 1, 10, 1);
        EnvelopeBudget x = new EnvelopeBudget();
        Checks.load(x, "x");
        checks.due("statement of the error", x.loadStatement(), 0);
        Checks.load(x, "people 2");
        checks.due("no statement then", x.loadStatement(), EnvelopeBudget.NONE);
        checks.due("no error then", x.loadError(), 0);
    }

    private static void loadBeginsAnew() {
        EnvelopeBudget x = Checks.budget("account 100;envelope 5 1 0;people 3");
        x.saveSnapshot(1);
        x.run(35);
        x.spend(0, 0, 3);
        x.share(1, -1, 0, 9, 7);
        long pool = x.pool();
        checks.due("an error", Checks.load(x, "account 7;accoun"), -110);
        checks.due("changes no day", x.day(), 35);
        checks.due("changes no pool", x.pool(), pool);
        checks.due("changes no account", x.account(0), 97);
        checks.due("changes no net", x.net(1), 6);
        checks.due("takes no action away", x.count(6), 3);
        checks.due("no log entry", x.count(7), 1);
        checks.due("a new text", Checks.load(x, "account 7;envelope 1 1 1;envelope 2 2 2"), 2);
        checks.due("begins on day 0", x.day(), 0);
        checks.due("with its own pool", x.pool(), 7);
        checks.due("with one person", x.count(5), 1);
        checks.due("no debts", x.net(0), 0);
        checks.due("nothing to take back", x.undo(), EnvelopeBudget.NONE);
        checks.due("an empty log", x.count(7), 0);
        checks.due("empty envelopes", x.envelope(0, 0), 0);
        checks.due("nothing spent", x.envelope(0, 5), 0);
        String text = "account 8;income 0 1 1 1;fund 5 1 1 0;envelope 1 1 1;bill 0 0 1 1 0;people 3";
        Checks.load(x, text);
        Checks.load(x, "account 77");
        Checks.load(x, "account 7");
        checks.due("the text before is gone", x.pool(), 7);
        Checks.load(x, text);
        checks.due("no debts of old", x.net(1), 0);
        checks.due("the snapshot stays", x.restoreSnapshot(1), 0);
        checks.due("with its account", x.account(0), 100);
    }

    private static void count() {
        EnvelopeBudget x = Checks.budget("account 9;account 9;account 9;envelope 1 1 1;envelope 1 1 1;"
                + "fund 1 1 1 0;income 0 1 1 1;income 0 1 1 1;bill 0 0 1 1 0;bill 0 0 1 1 0;bill 0 0 1 1 0;"
                + "bill 0 0 1 1 0;people 5");
        int[] due = {3, 2, 1, 2, 4, 5, 0, 0};
        for (int what = 0; what < 8; what++) {
            checks.due("count " + what, x.count(what), due[what]);
        }
        for (int i = 1; i <= 10; i++) {
            x.cover(0);
            checks.due("actions", x.count(6), Math.min(8, i));
        }
        x.run(2);
        checks.due("entries", x.count(7), 2 * 2 + 4 + 2);
        checks.due("bills that are due no more count", x.count(4), 4);
        x.run(100);
        checks.due("entries at most", x.count(7), 40);
        checks.dueThrows("count -1", Checks.ILLEGAL, () -> x.count(-1));
        checks.dueThrows("count 8", Checks.ILLEGAL, () -> x.count(8));
    }
}
