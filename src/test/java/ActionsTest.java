/** Promises 20 to 30, 48 and 50: what moves money or changes a description. */
final class ActionsTest {
    private static final Checks checks = new Checks();

    public static void main(String[] args) {
        spend();
        spendCovers();
        shift();
        give();
        transfer();
        deposit();
        setMonthly();
        setMode();
        setTarget();
        addBill();
        dropBill();
        pay();
        cover();
        postpone();
        checks.end("ActionsTest");
    }

    private static EnvelopeBudget plain() {
        return Checks.budget("account 100;account 50;envelope 30 1 0;envelope 20 1 0 in 0;fund 40 33 0 0");
    }

    private static void spend() {
        EnvelopeBudget x = plain();
        x.shift(-1, 0, 60);
        checks.due("spend", x.spend(0, 1, 55), 5);
        checks.due("the account", x.account(1), -5);
        checks.due("the other one", x.account(0), 100);
        checks.due("the pool", x.pool(), 90);
        checks.due("an action", x.count(6), 2);
        checks.due("spend the most", x.spend(0, 0, 1000000), -999905);
        checks.due("spend more", x.spend(0, 0, 1), -999906);
        checks.dueThrows("no envelope", Checks.OUT, () -> x.spend(2, 0, 0));
        checks.dueThrows("envelope -1", Checks.OUT, () -> x.spend(-1, 0, 1));
        checks.dueThrows("no account", Checks.OUT, () -> x.spend(0, 2, 0));
        checks.dueThrows("account -1", Checks.OUT, () -> x.spend(0, -1, 1));
        checks.dueThrows("amount 0", Checks.ILLEGAL, () -> x.spend(0, 0, 0));
        checks.dueThrows("amount 1000001", Checks.ILLEGAL, () -> x.spend(0, 0, 1000001));
        checks.due("no action", x.count(6), 4);
    }

    private static void spendCovers() {
        EnvelopeBudget x = Checks.budget("account 100;envelope 0 1 0;envelope 0 1 0 in 0;envelope 0 1 0 in 1;"
                + "envelope 0 1 0 in 0");
        x.shift(-1, 0, 20);
        x.shift(-1, 1, 10);
        x.shift(-1, 2, 5);
        x.shift(-1, 3, 7);
        checks.due("within", x.spend(2, 0, 5), 0);
        checks.due("by the nearest", x.spend(2, 0, 4), 0);
        checks.due("nearest", x.envelope(1, 0), 6);
        checks.due("by both", x.spend(2, 0, 8), 0);
        checks.due("nearest then", x.envelope(1, 0), 0);
        checks.due("outer", x.envelope(0, 0), 18);
        checks.due("and the pool", x.spend(2, 0, 20), 0);
        checks.due("outer then", x.envelope(0, 0), 0);
        checks.due("pool", x.pool(), 56);
        checks.due("a sibling gives nothing", x.envelope(3, 0), 7);
        checks.due("uncovered", x.spend(2, 0, 60), -4);
        checks.due("the outer one has a lack, too", x.spend(0, 0, 9), -9);
        x.deposit(0, 3);
        checks.due("a negative one gives nothing", x.spend(1, 0, 1), 0);
        checks.due("the pool gave", x.pool(), 2);
        checks.due("old lacks are covered along", x.spend(2, 0, 1), -3);
        checks.due("balanced", x.isBalanced(), true);
    }

    private static void shift() {
        EnvelopeBudget x = plain();
        checks.due("from the pool", x.shift(-1, 1, 50), 100);
        checks.due("between", x.shift(1, 0, 20), 30);
        checks.due("to the pool", x.shift(0, -1, 20), 0);
        checks.due("pool", x.pool(), 120);
        checks.due("all of it", x.shift(-1, 0, 120), 0);
        checks.due("a lack of the pool", x.shift(-1, 0, 1), EnvelopeBudget.LACK);
        checks.due("a lack of an envelope", x.shift(1, 0, 31), EnvelopeBudget.LACK);
        checks.due("nothing changed", x.envelope(1, 0), 30);
        checks.due("actions", x.count(6), 4);
        checks.dueThrows("from 2", Checks.OUT, () -> x.shift(2, 2, 1));
        checks.dueThrows("to 2", Checks.OUT, () -> x.shift(0, 2, 0));
        checks.dueThrows("from -2", Checks.OUT, () -> x.shift(-2, 0, 1));
        checks.dueThrows("to -2", Checks.OUT, () -> x.shift(0, -2, 1));
        checks.dueThrows("the same", Checks.ILLEGAL, () -> x.shift(1, 1, 1));
        checks.dueThrows("both the pool", Checks.ILLEGAL, () -> x.shift(-1, -1, 1));
        checks.dueThrows("amount 0", Checks.ILLEGAL, () -> x.shift(1, 0, 0));
        checks.dueThrows("amount 1000001", Checks.ILLEGAL, () -> x.shift(1, 0, 1000001));
        checks.due("no lack of 1000000", x.shift(1, 0, 1000000), EnvelopeBudget.LACK);
        x.spend(1, 0, 500);
        checks.due("a lack is not covered by a shift", x.envelope(1, 0), -350);
        x.deposit(0, 10);
        checks.due("to a negative one", x.shift(-1, 1, 10), 0);
        checks.due("it is less negative", x.envelope(1, 0), -340);
    }

    private static void give() {
        EnvelopeBudget x = plain();
        checks.due("give", x.give(0, 30), 30);
        checks.due("pool", x.pool(), 120);
        checks.due("more than the target", x.give(0, 120), 150);
        checks.due("a lack of the pool", x.give(0, 1), EnvelopeBudget.LACK);
        checks.due("take", x.give(0, -149), 1);
        checks.due("a lack of the fund", x.give(0, -2), EnvelopeBudget.LACK);
        checks.due("take the rest", x.give(0, -1), 0);
        checks.due("pool then", x.pool(), 150);
        checks.due("actions", x.count(6), 4);
        checks.due("1000000", x.give(0, 1000000), EnvelopeBudget.LACK);
        checks.due("-1000000", x.give(0, -1000000), EnvelopeBudget.LACK);
        checks.dueThrows("fund 1", Checks.OUT, () -> x.give(1, 0));
        checks.dueThrows("fund -1", Checks.OUT, () -> x.give(-1, 1));
        checks.dueThrows("amount 0", Checks.ILLEGAL, () -> x.give(0, 0));
        checks.dueThrows("amount 1000001", Checks.ILLEGAL, () -> x.give(0, 1000001));
        checks.dueThrows("amount -1000001", Checks.ILLEGAL, () -> x.give(0, -1000001));
        x.run(33);
        checks.due("an ended fund", x.give(0, 1), EnvelopeBudget.GONE);
        checks.due("an ended fund ahead of a lack", x.give(0, -5), EnvelopeBudget.GONE);
        checks.dueThrows("an exception ahead of it", Checks.ILLEGAL, () -> x.give(0, 0));
    }

    private static void transfer() {
        EnvelopeBudget x = plain();
        checks.due("transfer", x.transfer(0, 1, 30), 70);
        checks.due("the other one", x.account(1), 80);
        checks.due("into the red", x.transfer(1, 0, 1000000), -999920);
        checks.due("the pool stays", x.pool(), 150);
        checks.due("the least", x.transfer(0, 1, 1), 1000069);
        checks.due("actions", x.count(6), 3);
        checks.dueThrows("from 2", Checks.OUT, () -> x.transfer(2, 2, 1));
        checks.dueThrows("to 2", Checks.OUT, () -> x.transfer(0, 2, 0));
        checks.dueThrows("from -1", Checks.OUT, () -> x.transfer(-1, 0, 1));
        checks.dueThrows("to -1", Checks.OUT, () -> x.transfer(0, -1, 1));
        checks.dueThrows("the same", Checks.ILLEGAL, () -> x.transfer(1, 1, 1));
        checks.dueThrows("amount 0", Checks.ILLEGAL, () -> x.transfer(0, 1, 0));
        checks.dueThrows("amount 1000001", Checks.ILLEGAL, () -> x.transfer(0, 1, 1000001));
    }

    private static void deposit() {
        EnvelopeBudget x = plain();
        checks.due("deposit", x.deposit(1, 25), 75);
        checks.due("pool", x.pool(), 175);
        checks.due("deposit the most", x.deposit(0, 1000000), 1000100);
        checks.due("actions", x.count(6), 2);
        checks.dueThrows("account 2", Checks.OUT, () -> x.deposit(2, 0));
        checks.dueThrows("account -1", Checks.OUT, () -> x.deposit(-1, 1));
        checks.dueThrows("amount 0", Checks.ILLEGAL, () -> x.deposit(0, 0));
        checks.dueThrows("amount 1000001", Checks.ILLEGAL, () -> x.deposit(0, 1000001));
    }

    private static void setMonthly() {
        EnvelopeBudget x = plain();
        checks.due("setMonthly", x.setMonthly(1, 7), 20);
        checks.due("again", x.setMonthly(1, 1000000), 7);
        checks.due("to nothing", x.setMonthly(1, 0), 1000000);
        checks.due("monthly", x.envelope(1, 1), 0);
        x.allot();
        checks.due("it fills", x.envelope(1, 0), 0);
        checks.due("actions", x.count(6), 4);
        checks.dueThrows("envelope 2", Checks.OUT, () -> x.setMonthly(2, -1));
        checks.dueThrows("envelope -1", Checks.OUT, () -> x.setMonthly(-1, 1));
        checks.dueThrows("amount -1", Checks.ILLEGAL, () -> x.setMonthly(0, -1));
        checks.dueThrows("amount 1000001", Checks.ILLEGAL, () -> x.setMonthly(0, 1000001));
    }

    private static void setMode() {
        EnvelopeBudget x = plain();
        checks.due("setMode", x.setMode(0, 2, 1000000), 1);
        checks.due("mode", x.envelope(0, 2), 2);
        checks.due("cap", x.envelope(0, 3), 1000000);
        checks.due("again", x.setMode(0, 0, 0), 2);
        checks.due("cap then", x.envelope(0, 3), 0);
        checks.due("actions", x.count(6), 2);
        checks.dueThrows("envelope 2", Checks.OUT, () -> x.setMode(2, 3, -1));
        checks.dueThrows("envelope -1", Checks.OUT, () -> x.setMode(-1, 0, 0));
        checks.dueThrows("mode 3", Checks.ILLEGAL, () -> x.setMode(0, 3, 0));
        checks.dueThrows("mode -1", Checks.ILLEGAL, () -> x.setMode(0, -1, 0));
        checks.dueThrows("cap -1", Checks.ILLEGAL, () -> x.setMode(0, 0, -1));
        checks.dueThrows("cap 1000001", Checks.ILLEGAL, () -> x.setMode(0, 0, 1000001));
    }

    private static void setTarget() {
        EnvelopeBudget x = plain();
        checks.due("setTarget", x.setTarget(0, 1000000), 40);
        checks.due("again", x.setTarget(0, 1), 1000000);
        checks.due("target", x.fund(0, 1), 1);
        checks.due("actions", x.count(6), 2);
        checks.dueThrows("fund 1", Checks.OUT, () -> x.setTarget(1, 0));
        checks.dueThrows("fund -1", Checks.OUT, () -> x.setTarget(-1, 1));
        checks.dueThrows("target 0", Checks.ILLEGAL, () -> x.setTarget(0, 0));
        checks.dueThrows("target 1000001", Checks.ILLEGAL, () -> x.setTarget(0, 1000001));
        x.run(33);
        checks.due("the new one is paid", x.account(0), 99);
        checks.due("an ended one", x.setTarget(0, 5), EnvelopeBudget.GONE);
        checks.dueThrows("an exception ahead of it", Checks.ILLEGAL, () -> x.setTarget(0, 0));
        checks.due("its target", x.fund(0, 1), 1);
        checks.due("no action more", x.count(6), 3);
    }

    private static void addBill() {
        EnvelopeBudget x = plain();
        x.run(10);
        checks.due("addBill", x.addBill(1, 0, 1000000, 20000, 400), 0);
        checks.due("addBill for tomorrow", x.addBill(0, 1, 1, 11, 0), 1);
        int[] due = {0, 1, 1, 11, 0};
        for (int what = 0; what < 5; what++) {
            checks.due("bill 1 " + what, x.bill(1, what), due[what]);
        }
        checks.dueThrows("envelope 2", Checks.OUT, () -> x.addBill(2, 0, 0, 0, 0));
        checks.dueThrows("envelope -1", Checks.OUT, () -> x.addBill(-1, 0, 1, 11, 0));
        checks.dueThrows("account 2", Checks.OUT, () -> x.addBill(0, 2, 0, 0, 0));
        checks.dueThrows("account -1", Checks.OUT, () -> x.addBill(0, -1, 1, 11, 0));
        checks.dueThrows("amount 0", Checks.ILLEGAL, () -> x.addBill(0, 0, 0, 11, 0));
        checks.dueThrows("amount 1000001", Checks.ILLEGAL, () -> x.addBill(0, 0, 1000001, 11, 0));
        checks.dueThrows("today", Checks.ILLEGAL, () -> x.addBill(0, 0, 1, 10, 0));
        checks.dueThrows("first 20001", Checks.ILLEGAL, () -> x.addBill(0, 0, 1, 20001, 0));
        checks.dueThrows("every -1", Checks.ILLEGAL, () -> x.addBill(0, 0, 1, 11, -1));
        checks.dueThrows("every 401", Checks.ILLEGAL, () -> x.addBill(0, 0, 1, 11, 401));
        checks.due("actions", x.count(6), 3);
        for (int i = 2; i < 12; i++) {
            checks.due("bill " + i, x.addBill(0, 0, 1, 15, 0), i);
        }
        checks.due("a 13th", x.addBill(0, 0, 1, 15, 0), EnvelopeBudget.FULL);
        checks.dueThrows("an exception ahead of it", Checks.ILLEGAL, () -> x.addBill(0, 0, 0, 15, 0));
        x.run(10);
        checks.due("also if they are due no more", x.addBill(0, 0, 1, 25, 0), EnvelopeBudget.FULL);
        checks.due("twelve", x.count(4), 12);
        checks.due("paid", x.account(0), 90);
    }

    private static void dropBill() {
        EnvelopeBudget x = Checks.budget("account 100;envelope 1 1 1;bill 0 0 1 5 2;bill 0 0 2 6 3;bill 0 0 3 7 4");
        checks.dueThrows("bill 3", Checks.OUT, () -> x.dropBill(3));
        checks.dueThrows("bill -1", Checks.OUT, () -> x.dropBill(-1));
        checks.due("dropBill", x.dropBill(1), 2);
        int[] due = {0, 0, 3, 7, 4};
        for (int what = 0; what < 5; what++) {
            checks.due("bill 1 then " + what, x.bill(1, what), due[what]);
        }
        checks.due("the first one stays", x.bill(0, 2), 1);
        checks.dueThrows("bill 2 then", Checks.OUT, () -> x.bill(2, 0));
        checks.due("an action", x.undo(), 0);
        checks.due("three again", x.bill(1, 2) * 10 + x.bill(2, 2), 23);
        checks.due("the last one", x.dropBill(2), 2);
        checks.due("the first one", x.dropBill(0), 1);
        checks.due("the one between", x.bill(0, 2), 2);
        checks.due("none", x.dropBill(0), 0);
        checks.due("a new one", x.addBill(0, 0, 9, 1, 0), 0);
    }

    private static void pay() {
        EnvelopeBudget x = Checks.budget("account 100;account 0;envelope 10 1 0;envelope 10 1 0 in 0;"
                + "bill 1 1 15 20000 400;bill 0 0 1 5 0");
        x.allot();
        x.run(3);
        checks.due("pay", x.pay(0), 0);
        checks.due("the outer one covers", x.envelope(0, 0), 5);
        checks.due("the account", x.account(1), -15);
        checks.due("spent", x.envelope(1, 5), 15);
        checks.due("every days later than it was", x.bill(0, 3), 20400);
        checks.due("pay again", x.pay(0), 0);
        checks.due("later", x.bill(0, 3), 20800);
        checks.due("logged today", x.logPart(0, 1), 3);
        checks.due("pay the other one", x.pay(1), -1 + 1);
        checks.due("due no more", x.bill(1, 3), EnvelopeBudget.NONE);
        checks.due("gone", x.pay(1), EnvelopeBudget.GONE);
        checks.due("actions", x.count(6), 5);
        checks.dueThrows("bill 2", Checks.OUT, () -> x.pay(2));
        checks.dueThrows("bill -1", Checks.OUT, () -> x.pay(-1));
        x.run(5);
        checks.due("not once more on its day", x.envelope(0, 5), 1);
    }

    private static void cover() {
        EnvelopeBudget x = Checks.budget("account 10;envelope 0 1 0;envelope 0 1 0 in 0");
        x.spend(1, 0, 100);
        checks.due("nothing to cover with", x.cover(1), -90);
        x.deposit(0, 60);
        x.shift(-1, 0, 20);
        checks.due("cover", x.cover(1), -30);
        checks.due("the outer one", x.envelope(0, 0), 0);
        checks.due("the pool", x.pool(), 0);
        x.deposit(0, 60);
        checks.due("cover all", x.cover(1), 0);
        checks.due("the pool then", x.pool(), 30);
        checks.due("nothing to cover", x.cover(1), 0);
        checks.due("an action all the same", x.count(6), 8);
        x.undo();
        checks.due("which changed nothing", x.pool(), 30);
        x.shift(-1, 1, 7);
        checks.due("a positive one", x.cover(1), 7);
        checks.dueThrows("envelope 2", Checks.OUT, () -> x.cover(2));
        checks.dueThrows("envelope -1", Checks.OUT, () -> x.cover(-1));
    }

    private static void postpone() {
        EnvelopeBudget x = Checks.budget("account 10;envelope 0 1 0;bill 0 0 1 5 10;bill 0 0 1 6 0");
        checks.due("postpone", x.postpone(0, 60), 65);
        checks.due("again", x.postpone(0, 1), 66);
        x.run(66);
        checks.due("all its next days", x.bill(0, 3), 76);
        checks.due("the other one came", x.postpone(1, 3), EnvelopeBudget.GONE);
        checks.dueThrows("bill 2", Checks.OUT, () -> x.postpone(2, 0));
        checks.dueThrows("bill -1", Checks.OUT, () -> x.postpone(-1, 1));
        checks.dueThrows("days 0", Checks.ILLEGAL, () -> x.postpone(1, 0));
        checks.dueThrows("days 61", Checks.ILLEGAL, () -> x.postpone(0, 61));
        checks.due("actions", x.count(6), 3);
        x.undo();
        x.undo();
        checks.due("taken back", x.bill(0, 3), 65);
        EnvelopeBudget late = Checks.budget("account 10;envelope 0 1 0;bill 0 0 1 20000 10");
        checks.due("beyond the last day", late.postpone(0, 60), 20060);
    }
}
