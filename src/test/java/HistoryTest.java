/** Promises 36, 53 and 54: taking back, saving and restoring. */
final class HistoryTest {
    private static final Checks checks = new Checks();

    private static final String TEXT = "account 900;account 100;envelope 50 2 10;envelope 20 1 0 in 0;"
            + "fund 40 20 25 0;income 0 30 3 4;bill 0 1 5 2 6;bill 1 0 15 4 0;people 3";

    public static void main(String[] args) {
        eachActionIsTakenBack();
        eightAtMost();
        whatIsNoAction();
        snapshots();
        snapshotKeepsAll();
        checks.end("HistoryTest");
    }

    private static void act(EnvelopeBudget x, int action) {
        switch (action) {
            case 0: x.run(47); break;
            case 1: x.allot(); break;
            case 2: x.spend(1, 1, 33); break;
            case 3: x.shift(-1, 0, 7); break;
            case 4: x.give(0, 9); break;
            case 5: x.transfer(0, 1, 5); break;
            case 6: x.deposit(1, 8); break;
            case 7: x.setMonthly(1, 3); break;
            case 8: x.setMode(0, 1, 77); break;
            case 9: x.setTarget(0, 6); break;
            case 10: x.addBill(1, 1, 4, 300, 5); break;
            case 11: x.dropBill(0); break;
            case 12: x.pay(0); break;
            case 13: x.share(0, 1, 1, 100, 7); break;
            case 14: x.share(2, -1, 0, 100, 6); break;
            case 15: x.settle(1, 0, 0, 60); break;
            case 16: x.cover(1); break;
            default: x.postpone(0, 9); break;
        }
    }

    private static void eachActionIsTakenBack() {
        for (int action = 0; action < 18; action++) {
            EnvelopeBudget x = Checks.budget(TEXT);
            x.run(7);
            x.spend(1, 1, 1200);
            x.deposit(0, 11);
            String before = Picture.of(x);
            act(x, action);
            checks.due("actions behind action " + action, x.count(6), 4);
            checks.due("action " + action + " changes something", Picture.of(x).equals(before), false);
            checks.due("undo of action " + action, x.undo(), 3);
            checks.due("as before action " + action, Picture.of(x), before);
        }
    }

    private static void eightAtMost() {
        EnvelopeBudget x = Checks.budget("account 0");
        for (int i = 0; i < 11; i++) {
            x.deposit(0, 1);
        }
        for (int left = 7; left >= 0; left--) {
            checks.due("undo", x.undo(), left);
            checks.due("taken back", x.account(0), left + 3);
        }
        checks.due("no more", x.undo(), EnvelopeBudget.NONE);
        checks.due("unchanged", x.account(0), 3);
        x.deposit(0, 10);
        x.deposit(0, 100);
        x.undo();
        x.deposit(0, 1000);
        checks.due("new ones", x.account(0), 1013);
        checks.due("undo the new one", x.undo(), 1);
        checks.due("undo the one before", x.undo(), 0);
        checks.due("as at first", x.account(0), 3);
    }

    private static void whatIsNoAction() {
        EnvelopeBudget x = Checks.budget(TEXT);
        x.deposit(0, 1);
        Checks.type(x, "people 2");
        x.saveSnapshot(0);
        x.tightest(100, 0);
        x.billsWithin(5);
        x.dueNext(0);
        x.transfers();
        checks.due("one action", x.count(6), 1);
        checks.due("undo", x.undo(), 0);
        checks.due("the buffer stays", x.append(0), 8);
        checks.due("the snapshot stays", x.restoreSnapshot(0), 0);
        checks.due("with the action", x.pool(), 1001);
        x.deposit(0, 1);
        Checks.load(x, ";");
        checks.due("a wrong load leaves actions", x.count(6), 1);
        checks.due("undo does not change loadError", x.undo() + 10 * x.loadError(), 10);
    }

    private static void snapshots() {
        EnvelopeBudget x = Checks.budget(TEXT);
        x.run(5);
        checks.due("save", x.saveSnapshot(0), 5);
        String first = Picture.of(x);
        x.run(60);
        checks.due("save the other one", x.saveSnapshot(1), 65);
        String second = Picture.of(x);
        checks.due("no action", x.count(6), 2);
        checks.due("restore", x.restoreSnapshot(0), 5);
        checks.due("nothing can be taken back", x.undo(), EnvelopeBudget.NONE);
        checks.due("as it was", Picture.of(x), first);
        x.spend(0, 0, 60);
        checks.due("an action then", x.count(6), 1);
        checks.due("restore once more", x.restoreSnapshot(0), 5);
        checks.due("the snapshot stayed", Picture.of(x), first);
        checks.due("restore the other one", x.restoreSnapshot(1), 65);
        checks.due("as it was then", Picture.of(x), second);
        x.deposit(0, 1);
        checks.due("save over", x.saveSnapshot(0), 65);
        String later = Picture.of(x);
        x.run(1);
        x.restoreSnapshot(0);
        checks.due("the later one", Picture.of(x), later);
        checks.dueThrows("save 2", Checks.ILLEGAL, () -> x.saveSnapshot(2));
        checks.dueThrows("save -1", Checks.ILLEGAL, () -> x.saveSnapshot(-1));
        checks.dueThrows("restore 2", Checks.ILLEGAL, () -> x.restoreSnapshot(2));
        checks.dueThrows("restore -1", Checks.ILLEGAL, () -> x.restoreSnapshot(-1));
        EnvelopeBudget y = Checks.budget("account 1");
        y.deposit(0, 1);
        checks.due("nothing saved", y.restoreSnapshot(1), EnvelopeBudget.NONE);
        checks.due("nothing changes", y.count(6), 1);
    }

    private static void snapshotKeepsAll() {
        EnvelopeBudget x = Checks.budget(TEXT);
        for (int action = 0; action < 18; action++) {
            act(x, action);
        }
        String picture = Picture.of(x);
        x.saveSnapshot(1);
        Checks.load(x, "account 1;envelope 9 9 9");
        checks.due("the latest load", x.loadError(), 2);
        Checks.load(x, "account 1;account 2;account 3;envelope 9 0 9;people 6");
        Checks.type(x, "acc");
        checks.due("restore", x.restoreSnapshot(1), 47);
        checks.due("everything", Picture.of(x), picture);
        checks.due("but the buffer", x.append(0), 3);
        x.load();
        x.restoreSnapshot(1);
        checks.due("and the result of load", x.loadError() * 100 + x.loadStatement(), 100);
    }
}
