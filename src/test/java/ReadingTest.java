/** Promises 7 to 17: what a budget tells of itself. */
final class ReadingTest {
    private static final Checks checks = new Checks();

    private static final String NESTED = "account 5000;account 300;envelope 100 1 0;envelope 200 1 0 in 0;"
            + "envelope 300 1 0;envelope 400 1 0 in 1;envelope 500 1 0 in 0;envelope 600 1 0 in 2";

    public static void main(String[] args) {
        dayAndPool();
        account();
        envelope();
        treeAndInside();
        fund();
        income();
        bill();
        need();
        isBalanced();
        checks.end("ReadingTest");
    }

    private static void dayAndPool() {
        EnvelopeBudget x = Checks.budget("account 10;fund 50 2 0 0");
        checks.due("day 0", x.day(), 0);
        checks.due("pool", x.pool(), 10);
        x.run(2);
        checks.due("day 2", x.day(), 2);
        checks.due("the pool can be negative", x.pool(), -40);
    }

    private static void account() {
        EnvelopeBudget x = Checks.budget("account 10;account 20;envelope 1 1 1");
        checks.due("account 0", x.account(0), 10);
        checks.due("account 1", x.account(1), 20);
        x.spend(0, 1, 70);
        checks.due("a negative account", x.account(1), -50);
        checks.dueThrows("account 2", Checks.OUT, () -> x.account(2));
        checks.dueThrows("account -1", Checks.OUT, () -> x.account(-1));
        checks.dueThrows("account 4", Checks.OUT, () -> x.account(4));
    }

    private static void envelope() {
        EnvelopeBudget x = Checks.budget(NESTED);
        x.allot();
        x.spend(3, 0, 30);
        x.spend(3, 1, 5);
        long[] due = {365, 400, 1, 0, 1, 35, 2};
        for (int what = 0; what < due.length; what++) {
            checks.due("envelope 3 " + what, x.envelope(3, what), due[what]);
        }
        checks.due("in none", x.envelope(2, 4), EnvelopeBudget.NONE);
        checks.due("depth without", x.envelope(2, 6), 0);
        checks.due("depth of one", x.envelope(5, 6), 1);
        checks.dueThrows("envelope 6", Checks.OUT, () -> x.envelope(6, 9));
        checks.dueThrows("envelope -1", Checks.OUT, () -> x.envelope(-1, 0));
        checks.dueThrows("envelope what 7", Checks.ILLEGAL, () -> x.envelope(0, 7));
        checks.dueThrows("envelope what -1", Checks.ILLEGAL, () -> x.envelope(0, -1));
        spentCounts();
    }

    /** Only what an envelope spends counts, not what it gives to another one. */
    private static void spentCounts() {
        EnvelopeBudget x = Checks.budget("account 500;envelope 100 1 0;envelope 50 1 0 in 0;"
                + "bill 1 0 20 3 0;people 3");
        x.allot();
        x.run(3);
        x.share(0, 0, 1, 10, 7);
        x.share(1, -1, 1, 10, 6);
        x.spend(1, 0, 80);
        x.shift(-1, 1, 5);
        x.cover(1);
        checks.due("spent by the inner one", x.envelope(1, 5), 20 + 4 + 80);
        checks.due("spent by the outer one", x.envelope(0, 5), 0);
        checks.due("which gave", x.envelope(0, 0), 46);
    }

    private static void treeAndInside() {
        EnvelopeBudget x = Checks.budget(NESTED);
        x.allot();
        long[] trees = {1200, 600, 900, 400, 500, 600};
        int[] within = {2 + 8 + 16, 8, 32, 0, 0, 0};
        for (int i = 0; i < 6; i++) {
            checks.due("tree " + i, x.tree(i), trees[i]);
            checks.due("inside " + i, x.inside(i), within[i]);
        }
        checks.dueThrows("tree 6", Checks.OUT, () -> x.tree(6));
        checks.dueThrows("tree -1", Checks.OUT, () -> x.tree(-1));
        checks.dueThrows("inside 6", Checks.OUT, () -> x.inside(6));
        checks.dueThrows("inside -1", Checks.OUT, () -> x.inside(-1));
    }

    private static void fund() {
        EnvelopeBudget x = Checks.budget("account 500;account 0;fund 60 10 15 1;fund 70 12 0 0");
        long[][] first = {{0, 60, 10, 15, 1, 0}, {0, 70, 12, 0, 0, 0}};
        long[][] then = {{0, 60, 40, 15, 1, 2}, {0, 70, -1, 0, 0, 1}};
        for (int i = 0; i < 2; i++) {
            for (int what = 0; what < 6; what++) {
                checks.due("fund " + i + " " + what, x.fund(i, what), first[i][what]);
            }
        }
        x.run(25);
        for (int i = 0; i < 2; i++) {
            for (int what = 0; what < 6; what++) {
                checks.due("fund then " + i + " " + what, x.fund(i, what), then[i][what]);
            }
        }
        checks.dueThrows("fund 2", Checks.OUT, () -> x.fund(2, 6));
        checks.dueThrows("fund -1", Checks.OUT, () -> x.fund(-1, 0));
        checks.dueThrows("fund what 6", Checks.ILLEGAL, () -> x.fund(0, 6));
        checks.dueThrows("fund what -1", Checks.ILLEGAL, () -> x.fund(0, -1));
    }

    private static void income() {
        EnvelopeBudget x = Checks.budget("account 0;account 0;income 1 9 3 4;income 0 8 3 0");
        x.run(7);
        int[][] due = {{1, 9, 11, 4}, {0, 8, -1, 0}};
        for (int i = 0; i < 2; i++) {
            for (int what = 0; what < 4; what++) {
                checks.due("income " + i + " " + what, x.income(i, what), due[i][what]);
            }
        }
        checks.dueThrows("income 2", Checks.OUT, () -> x.income(2, 4));
        checks.dueThrows("income -1", Checks.OUT, () -> x.income(-1, 0));
        checks.dueThrows("income what 4", Checks.ILLEGAL, () -> x.income(0, 4));
        checks.dueThrows("income what -1", Checks.ILLEGAL, () -> x.income(0, -1));
    }

    private static void bill() {
        EnvelopeBudget x = Checks.budget("account 0;account 0;envelope 0 0 0;envelope 0 0 0;"
                + "bill 1 0 9 3 4;bill 0 1 8 3 0");
        x.run(6);
        int[][] due = {{1, 0, 9, 7, 4}, {0, 1, 8, -1, 0}};
        for (int i = 0; i < 2; i++) {
            for (int what = 0; what < 5; what++) {
                checks.due("bill " + i + " " + what, x.bill(i, what), due[i][what]);
            }
        }
        checks.dueThrows("bill 2", Checks.OUT, () -> x.bill(2, 5));
        checks.dueThrows("bill -1", Checks.OUT, () -> x.bill(-1, 0));
        checks.dueThrows("bill what 5", Checks.ILLEGAL, () -> x.bill(0, 5));
        checks.dueThrows("bill what -1", Checks.ILLEGAL, () -> x.bill(0, -1));
    }

    private static void need() {
        EnvelopeBudget x = Checks.budget("account 1000;fund 100 30 0 0;fund 100 31 0 0;fund 100 61 400 0;"
                + "fund 100 1 0 0;fund 90 5 400 0");
        long[] due = {100, 50, 34, 100, 90};
        for (int i = 0; i < due.length; i++) {
            checks.due("need " + i, x.need(i), due[i]);
        }
        x.give(2, 1);
        checks.due("99 in three months", x.need(2), 33);
        x.give(2, 98);
        checks.due("1 in three months", x.need(2), 1);
        x.give(2, 1);
        checks.due("no more", x.need(2), 0);
        x.give(2, 5);
        checks.due("too much", x.need(2), 0);
        x.run(1);
        checks.due("an ended one", x.need(3), 0);
        checks.due("two months left", x.need(1), 100);
        checks.dueThrows("need 5", Checks.OUT, () -> x.need(5));
        checks.dueThrows("need -1", Checks.OUT, () -> x.need(-1));
        EnvelopeBudget poor = Checks.budget("account 0;fund 90 5 60 0");
        poor.run(5);
        checks.due("a lack is needed too", poor.need(0), 90);
        checks.due("it stays in the fund", poor.fund(0, 0), -90);
    }

    private static void isBalanced() {
        EnvelopeBudget x = Checks.budget("account 100;account 30;envelope 40 0 0;envelope 90 2 10 in 0;"
                + "fund 500 31 20 1;income 0 33 5 9;bill 1 1 44 7 11;people 3");
        checks.due("at first", x.isBalanced(), true);
        x.allot();
        x.share(0, 1, 1, 200, 5);
        x.share(2, -1, 0, 100, 7);
        x.settle(1, 0, 1, 30);
        checks.due("with debts", x.isBalanced(), true);
        for (int i = 0; i < 30; i++) {
            x.run(13);
            checks.due("on day " + x.day(), x.isBalanced(), true);
        }
    }
}
