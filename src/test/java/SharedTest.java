/** Promises 31 to 35: shared expenses and debts. */
final class SharedTest {
    private static final Checks checks = new Checks();

    public static void main(String[] args) {
        share();
        shareErrors();
        settle();
        net();
        transfers();
        transfersOfSix();
        checks.end("SharedTest");
    }

    private static EnvelopeBudget four() {
        return Checks.budget("account 500;account 100;envelope 50 1 0;envelope 20 1 0 in 0;people 4");
    }

    private static void nets(EnvelopeBudget x, long... due) {
        for (int i = 0; i < due.length; i++) {
            checks.due("net " + i, x.net(i), due[i]);
        }
    }

    private static void share() {
        EnvelopeBudget x = four();
        x.allot();
        checks.due("the household pays", x.share(0, 1, 1, 103, 15), 26);
        nets(x, 77, -26, -26, -25);
        checks.due("its account", x.account(1), -3);
        checks.due("a lack is covered", x.envelope(1, 0), 0);
        checks.due("by the outer one", x.envelope(0, 0), 44);
        checks.due("spent", x.envelope(1, 5), 26);
        checks.due("another one pays", x.share(2, -1, 0, 11, 5), 6);
        nets(x, 71, -26, -20, -25);
        checks.due("by no account", x.account(0) + x.account(1), 497);
        checks.due("from the envelope", x.envelope(0, 0), 38);
        checks.due("without the household", x.share(1, -1, 99, 7, 12), 0);
        nets(x, 71, -19, -24, -28);
        checks.due("for others", x.share(0, 0, -5, 10, 2), 0);
        nets(x, 81, -29, -24, -28);
        checks.due("account 0", x.account(0), 490);
        checks.due("less than heads", x.share(3, -1, 0, 1, 15), 1);
        nets(x, 80, -29, -24, -27);
        checks.due("alone", x.share(0, 0, 0, 1000000, 1), 1000000);
        nets(x, 80, -29, -24, -27);
        checks.due("actions", x.count(6), 7);
        checks.due("balanced", x.isBalanced(), true);
        checks.due("undo", x.undo(), 6);
        checks.due("account 0 again", x.account(0), 490);
    }

    private static void shareErrors() {
        EnvelopeBudget x = four();
        checks.dueThrows("payer 4", Checks.OUT, () -> x.share(4, 0, 0, 0, 0));
        checks.dueThrows("payer -1", Checks.OUT, () -> x.share(-1, -1, 0, 1, 1));
        checks.dueThrows("no account", Checks.OUT, () -> x.share(0, -1, 0, 0, 2));
        checks.dueThrows("account 2", Checks.OUT, () -> x.share(0, 2, 0, 1, 2));
        checks.dueThrows("no envelope", Checks.OUT, () -> x.share(1, 0, 2, 0, 1));
        checks.dueThrows("envelope -1", Checks.OUT, () -> x.share(1, -1, -1, 1, 3));
        checks.dueThrows("no envelope of a wrong set", Checks.OUT, () -> x.share(1, -1, 2, 1, 17));
        checks.dueThrows("no envelope of -1", Checks.OUT, () -> x.share(1, -1, 2, 1, -1));
        checks.dueThrows("amount 0", Checks.ILLEGAL, () -> x.share(1, -1, 0, 0, 3));
        checks.dueThrows("amount 1000001", Checks.ILLEGAL, () -> x.share(1, -1, 0, 1000001, 3));
        checks.dueThrows("a place of another one", Checks.ILLEGAL, () -> x.share(1, 0, 0, 1, 3));
        checks.dueThrows("a strange place", Checks.ILLEGAL, () -> x.share(1, -2, 0, 1, 3));
        checks.dueThrows("nobody", Checks.ILLEGAL, () -> x.share(1, -1, 0, 1, 0));
        checks.dueThrows("person 4", Checks.ILLEGAL, () -> x.share(1, -1, 0, 1, 16));
        checks.dueThrows("person 4 and 0", Checks.ILLEGAL, () -> x.share(1, -1, 0, 1, 17));
        checks.dueThrows("all bits", Checks.ILLEGAL, () -> x.share(1, -1, 0, 1, -1));
        checks.dueThrows("all bits but the first", Checks.ILLEGAL, () -> x.share(1, -1, 9, 1, -2));
        checks.due("no action", x.count(6), 0);
        EnvelopeBudget alone = Checks.budget("account 5;envelope 1 1 1");
        checks.due("one person", alone.share(0, 0, 0, 3, 1), 3);
        checks.due("owes nobody", alone.net(0), 0);
        checks.dueThrows("a second one", Checks.ILLEGAL, () -> alone.share(0, 0, 0, 3, 3));
    }

    private static void settle() {
        EnvelopeBudget x = four();
        checks.due("to the household", x.settle(2, 0, 1, 30), 30);
        checks.due("its account", x.account(1), 130);
        checks.due("from the household", x.settle(0, 3, 0, 1000000), 999970);
        checks.due("account 0", x.account(0), -999500);
        checks.due("between others", x.settle(1, 2, 77, 4), 4);
        checks.due("the least", x.settle(1, 2, -77, 1), 5);
        nets(x, 999970, 5, 25, -1000000);
        checks.due("the pool stays", x.pool(), 600);
        checks.due("balanced", x.isBalanced(), true);
        checks.due("actions", x.count(6), 4);
        checks.dueThrows("from 4", Checks.OUT, () -> x.settle(4, 4, 0, 0));
        checks.dueThrows("from -1", Checks.OUT, () -> x.settle(-1, 0, 0, 1));
        checks.dueThrows("to 4", Checks.OUT, () -> x.settle(1, 4, 0, 1));
        checks.dueThrows("to -1", Checks.OUT, () -> x.settle(1, -1, 0, 1));
        checks.dueThrows("from 0, no account", Checks.OUT, () -> x.settle(0, 1, 2, 0));
        checks.dueThrows("to 0, no account", Checks.OUT, () -> x.settle(1, 0, -1, 1));
        checks.dueThrows("the same", Checks.ILLEGAL, () -> x.settle(2, 2, 9, 1));
        checks.dueThrows("amount 0", Checks.ILLEGAL, () -> x.settle(2, 1, 9, 0));
        checks.dueThrows("amount 1000001", Checks.ILLEGAL, () -> x.settle(2, 1, 9, 1000001));
    }

    private static void net() {
        EnvelopeBudget x = four();
        x.settle(1, 3, 0, 8);
        checks.due("owed", x.net(1), 8);
        checks.due("owing", x.net(3), -8);
        checks.due("neither", x.net(2), 0);
        checks.dueThrows("person 4", Checks.OUT, () -> x.net(4));
        checks.dueThrows("person -1", Checks.OUT, () -> x.net(-1));
    }

    private static void part(EnvelopeBudget x, int index, long payer, long receiver, long amount) {
        checks.due("payer " + index, x.transferPart(index, 0), payer);
        checks.due("receiver " + index, x.transferPart(index, 1), receiver);
        checks.due("amount " + index, x.transferPart(index, 2), amount);
    }

    private static void transfers() {
        EnvelopeBudget x = four();
        checks.due("no debts", x.transfers(), 0);
        checks.due("no transfer", x.transferPart(0, 2), EnvelopeBudget.NO_VALUE);
        x.settle(0, 1, 0, 10);
        x.settle(2, 3, 0, 10);
        checks.due("alike ones", x.transfers(), 2);
        part(x, 0, 1, 0, 10);
        part(x, 1, 3, 2, 10);
        nets(x, 10, -10, 10, -10);
        checks.due("no third one", x.transferPart(2, 0), EnvelopeBudget.NO_VALUE);
        checks.due("none before", x.transferPart(-1, 0), EnvelopeBudget.NO_VALUE);
        checks.dueThrows("what 3", Checks.ILLEGAL, () -> x.transferPart(0, 3));
        checks.dueThrows("what -1", Checks.ILLEGAL, () -> x.transferPart(9, -1));
        checks.due("no action", x.count(6), 2);
    }

    private static void transfersOfSix() {
        EnvelopeBudget x = Checks.budget("account 500;people 6");
        x.settle(1, 5, 0, 70);
        x.settle(1, 4, 0, 20);
        x.settle(2, 4, 0, 25);
        x.settle(3, 0, 0, 15);
        nets(x, -15, 90, 25, 15, -45, -70);
        checks.due("a part without asking for their number", x.transferPart(0, 2), 70);
        checks.due("transfers", x.transfers(), 4);
        part(x, 0, 5, 1, 70);
        part(x, 1, 4, 2, 25);
        part(x, 2, 4, 1, 20);
        part(x, 3, 0, 3, 15);
        checks.due("no fifth one", x.transferPart(4, 0), EnvelopeBudget.NO_VALUE);
    }
}
