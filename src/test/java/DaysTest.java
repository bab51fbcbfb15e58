/** Promises 18, 19 and 37, and section 3: days, months, allotments and the log. */
final class DaysTest {
    private static final Checks checks = new Checks();

    public static void main(String[] args) {
        run();
        orderOfADay();
        rollover();
        allot();
        allotInOrder();
        funds();
        fundThatEnds();
        billsCover();
        logPart();
        logKeepsForty();
        checks.end("DaysTest");
    }

    private static void run() {
        EnvelopeBudget x = Checks.budget("account 0;income 0 5 3 4;income 0 7 4 0");
        checks.due("run 2", x.run(2), 2);
        checks.due("nothing yet", x.pool(), 0);
        checks.due("run 1", x.run(1), 3);
        checks.due("the first income", x.pool(), 5);
        checks.due("run 8", x.run(8), 11);
        checks.due("three and one", x.account(0), 22);
        checks.due("one action each", x.count(6), 3);
        checks.dueThrows("run 0", Checks.ILLEGAL, () -> x.run(0));
        checks.dueThrows("run 401", Checks.ILLEGAL, () -> x.run(401));
        checks.dueThrows("run -1", Checks.ILLEGAL, () -> x.run(-1));
        for (int i = 0; i < 49; i++) {
            x.run(400);
        }
        checks.due("day 19611", x.day(), 19611);
        checks.due("run 390 is too far", x.run(390), EnvelopeBudget.FULL);
        checks.dueThrows("run 401 then", Checks.ILLEGAL, () -> x.run(401));
        checks.due("the day then", x.day(), 19611);
        checks.due("run to the end", x.run(389), 20000);
        checks.due("run beyond", x.run(1), EnvelopeBudget.FULL);
        checks.due("predictions go beyond", x.tightest(2000, 1), x.account(0));
    }

    /** Income, month, bill, fund: each takes what the one before left. */
    private static void orderOfADay() {
        EnvelopeBudget x = Checks.budget("account 0;envelope 60 1 0;fund 100 30 0 0;income 0 130 30 0;"
                + "bill 0 0 20 30 0");
        x.run(30);
        long[][] due = {
            {2, 30, 0, 100, 0}, {1, 30, 0, 20, 0}, {3, 30, -1, 130, 0}, {0, 30, 0, 130, 0}};
        for (int i = 0; i < due.length; i++) {
            for (int what = 0; what < 5; what++) {
                checks.due("log " + i + " " + what, x.logPart(i, what), due[i][what]);
            }
        }
        checks.due("four entries", x.count(7), 4);
        checks.due("envelope", x.envelope(0, 0), 10);
        checks.due("account", x.account(0), 10);
        EnvelopeBudget y = Checks.budget("account 0;account 0;envelope 0 1 0;bill 0 1 5 9 0;bill 0 0 5 9 0;"
                + "fund 5 9 0 1;fund 5 9 0 0;income 1 2 9 0;income 0 3 9 0");
        y.run(9);
        long[] kinds = {2, 2, 1, 1, 0, 0};
        long[] numbers = {1, 0, 1, 0, 1, 0};
        long[] lacks = {5, 5, 5, 0, 0, 0};
        for (int i = 0; i < kinds.length; i++) {
            checks.due("kind " + i, y.logPart(i, 0), kinds[i]);
            checks.due("number " + i, y.logPart(i, 2), numbers[i]);
            checks.due("uncovered " + i, y.logPart(i, 4), lacks[i]);
        }
    }

    private static void rollover() {
        EnvelopeBudget x = Checks.budget("account 1000;envelope 0 0 7;envelope 0 1 7;envelope 0 2 7;"
                + "envelope 0 2 200;envelope 0 0 0;envelope 0 2 0");
        for (int i = 0; i < 4; i++) {
            x.shift(-1, i, 100);
        }
        x.shift(-1, 5, 9);
        x.run(29);
        checks.due("not before the month", x.pool(), 591);
        x.run(1);
        long[] due = {0, 100, 7, 100, 0, 0};
        for (int i = 0; i < due.length; i++) {
            checks.due("rolled over " + i, x.envelope(i, 0), due[i]);
        }
        checks.due("into the pool", x.pool(), 793);
        EnvelopeBudget little = Checks.budget("account 1;envelope 0 0 0");
        little.shift(-1, 0, 1);
        little.run(30);
        checks.due("the least is rolled over", little.pool(), 1);
        EnvelopeBudget lacking = Checks.budget("account 0;envelope 5 0 0;envelope 5 2 0");
        lacking.spend(0, 0, 9);
        lacking.spend(1, 0, 8);
        lacking.run(30);
        checks.due("a lack stays with mode 0", lacking.envelope(0, 0), -9);
        checks.due("a lack stays with mode 2", lacking.envelope(1, 0), -8);
        checks.due("the pool has none", lacking.pool(), 0);
    }

    private static void allot() {
        EnvelopeBudget x = Checks.budget("account 250;envelope 100 1 0;envelope 80 1 0;envelope 90 1 0");
        checks.due("allot", x.allot(), 250);
        long[] due = {100, 80, 70};
        for (int i = 0; i < due.length; i++) {
            checks.due("filled " + i, x.envelope(i, 0), due[i]);
        }
        checks.due("nothing left", x.allot(), 0);
        checks.due("two actions", x.count(6), 2);
        EnvelopeBudget negative = Checks.budget("account 3;envelope 10 1 0;fund 50 1 0 0;fund 50 9 0 0");
        negative.run(1);
        checks.due("a negative pool", negative.pool(), -47);
        checks.due("gives nothing", negative.allot(), 0);
        checks.due("to no envelope", negative.envelope(0, 0), 0);
        checks.due("and to no fund", negative.fund(1, 0), 0);
    }

    private static void allotInOrder() {
        EnvelopeBudget x = Checks.budget("account 170;envelope 10 1 0;fund 100 60 0 0;fund 60 20 0 0;"
                + "fund 30 60 0 0;fund 40 20 0 0;fund 900 80 0 0");
        checks.due("allot", x.allot(), 170);
        long[] due = {50, 60, 15, 40, 5};
        for (int i = 0; i < due.length; i++) {
            checks.due("fund " + i, x.fund(i, 0), due[i]);
        }
        checks.due("nothing for the envelope", x.envelope(0, 0), 0);
        x.deposit(0, 400);
        checks.due("again", x.allot(), 25 + 8 + 299 + 10);
        checks.due("a full fund gets no more", x.fund(1, 0), 60);
        checks.due("the envelope then", x.envelope(0, 0), 10);
    }

    private static void funds() {
        EnvelopeBudget x = Checks.budget("account 100;account 20;envelope 50 1 0;fund 60 10 15 1");
        x.give(0, 25);
        x.shift(-1, 0, 90);
        x.run(10);
        checks.due("the account pays", x.account(1), -40);
        checks.due("the pool covers", x.pool(), 0);
        checks.due("the envelope doesn't", x.envelope(0, 0), 90);
        checks.due("a lack remains", x.fund(0, 0), -30);
        checks.due("in the log", x.logPart(0, 4), 30);
        checks.due("it pays again", x.fund(0, 2), 25);
        x.deposit(0, 500);
        checks.due("a lack is not covered by itself", x.fund(0, 0), -30);
        x.run(15);
        checks.due("the pool covers all of it", x.fund(0, 0), 0);
        checks.due("pool", x.pool(), 410);
        checks.due("nothing uncovered", x.logPart(0, 4), 0);
        checks.due("paid twice", x.fund(0, 5), 2);
    }

    private static void fundThatEnds() {
        EnvelopeBudget x = Checks.budget("account 500;fund 60 10 0 0;fund 80 10 0 0;fund 1000 11 0 0");
        x.give(0, 100);
        x.run(10);
        checks.due("what is left goes into the pool", x.pool(), 360);
        checks.due("it is empty", x.fund(0, 0), 0);
        checks.due("it has ended", x.fund(0, 2), EnvelopeBudget.NONE);
        checks.due("no need", x.need(0), 0);
        x.run(1);
        checks.due("a lack goes there too", x.pool(), -640);
        checks.due("the last one is empty", x.fund(2, 0), 0);
        checks.due("what remained uncovered", x.logPart(0, 4), 640);
        checks.due("its amount", x.logPart(0, 3), 1000);
        checks.due("an allotment fills no ended one", x.deposit(0, 1000) + x.allot(), 360);
    }

    private static void billsCover() {
        EnvelopeBudget x = Checks.budget("account 100;account 0;envelope 30 1 0;envelope 20 1 0 in 0;"
                + "envelope 9 1 0 in 1;envelope 5 1 0;bill 2 1 70 4 3;bill 3 1 2 4 0");
        x.allot();
        x.run(4);
        checks.due("itself", x.envelope(2, 0), 0);
        checks.due("the nearest gives first", x.envelope(1, 0), 0);
        checks.due("then the outer one", x.envelope(0, 0), 0);
        checks.due("then the pool", x.pool(), 36 - 11);
        checks.due("another one gives nothing", x.envelope(3, 0), 3);
        checks.due("the account", x.account(1), -72);
        checks.due("due again", x.bill(0, 3), 7);
        checks.due("due no more", x.bill(1, 3), EnvelopeBudget.NONE);
        x.run(3);
        checks.due("uncovered", x.envelope(2, 0), -45);
        checks.due("in the log", x.logPart(0, 4), 45);
    }

    private static void logPart() {
        EnvelopeBudget x = Checks.budget("account 100;envelope 10 1 0;bill 0 0 5 2 0;bill 0 0 7 3 5");
        checks.due("an empty log", x.logPart(0, 0), EnvelopeBudget.NO_VALUE);
        x.run(2);
        x.dropBill(0);
        x.run(1);
        x.pay(0);
        long[][] due = {{1, 3, 0, 7, 0}, {1, 3, 0, 7, 0}, {1, 2, 0, 5, 0}};
        for (int i = 0; i < due.length; i++) {
            for (int what = 0; what < 5; what++) {
                checks.due("bill log " + i + " " + what, x.logPart(i, what), due[i][what]);
            }
        }
        checks.due("no fourth entry", x.logPart(3, 0), EnvelopeBudget.NO_VALUE);
        checks.due("no entry -1", x.logPart(-1, 0), EnvelopeBudget.NO_VALUE);
        checks.dueThrows("what 5", Checks.ILLEGAL, () -> x.logPart(0, 5));
        checks.dueThrows("what -1", Checks.ILLEGAL, () -> x.logPart(9, -1));
        x.run(27);
        checks.due("a month", x.logPart(0, 0), 3);
        checks.due("its number", x.logPart(0, 2), EnvelopeBudget.NONE);
        checks.due("what it took", x.logPart(0, 3), 10);
    }

    private static void logKeepsForty() {
        EnvelopeBudget x = Checks.budget("account 0;income 0 1 1 1");
        x.run(20);
        checks.due("twenty", x.count(7), 20);
        x.run(57);
        checks.due("forty", x.count(7), 40);
        checks.due("the latest", x.logPart(0, 1), 77);
        checks.due("the oldest", x.logPart(39, 1), 39);
        checks.due("none beyond", x.logPart(40, 1), EnvelopeBudget.NO_VALUE);
        x.undo();
        for (int i = 0; i < 20; i++) {
            checks.due("undone entries are back", x.logPart(i, 1), 20 - i);
        }
        checks.due("as many", x.count(7), 20);
    }
}
