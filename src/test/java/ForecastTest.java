/** Promises 38 to 47, 49, 51 and 52: forecasts, and what is reckoned from a budget. */
final class ForecastTest {
    private static final Checks checks = new Checks();

    private static final String TEXT = "account 100;account 30;envelope 50 0 0;envelope 20 1 0 in 0;"
            + "fund 60 20 25 1;income 0 90 10 30;bill 0 0 40 5 7;bill 1 1 15 20 0";

    public static void main(String[] args) {
        tightest();
        accountLow();
        shortDay();
        poolLow();
        fundLack();
        billsWithin();
        safe();
        enough();
        spentPerDay();
        filled();
        lacks();
        dueNext();
        bestDay();
        checks.end("ForecastTest");
    }

    private static void tightest() {
        EnvelopeBudget x = Checks.budget(TEXT);
        // 130; day 5: 90; 10: 180; 12: 140; 19: 100; 20: 25; 26: -15; 33: -55; 40: -5
        long[][] due = {{0, 0, 130}, {4, 0, 130}, {5, 5, 90}, {19, 5, 90}, {20, 20, 25}, {25, 20, 25},
            {26, 26, -15}, {40, 33, -55}};
        for (long[] row : due) {
            checks.due("tightest day in " + row[0], x.tightest((int) row[0], 0), row[1]);
            checks.due("tightest sum in " + row[0], x.tightest((int) row[0], 1), row[2]);
        }
        x.run(20);
        checks.due("from day 20", x.tightest(5, 0), 20);
        checks.due("sum from day 20", x.tightest(5, 1), 25);
        checks.dueThrows("days -1", Checks.ILLEGAL, () -> x.tightest(-1, 0));
        checks.dueThrows("days 2001", Checks.ILLEGAL, () -> x.tightest(2001, 0));
        checks.dueThrows("what 2", Checks.ILLEGAL, () -> x.tightest(0, 2));
        checks.dueThrows("what -1", Checks.ILLEGAL, () -> x.tightest(0, -1));
        EnvelopeBudget far = Checks.budget("account 0;envelope 0 0 0;bill 0 0 1 2000 0;bill 0 0 1 2001 0");
        checks.due("in 2000 days", far.tightest(2000, 0), 2000);
        checks.due("one of both", far.tightest(2000, 1), -1);
        EnvelopeBudget late = Checks.budget("account 0;envelope 0 0 0;bill 0 0 1 400 400");
        for (int i = 0; i < 50; i++) {
            late.run(400);
        }
        checks.due("beyond day 20000", late.tightest(2000, 0), 22000);
    }

    private static void accountLow() {
        EnvelopeBudget x = Checks.budget(TEXT);
        checks.due("today", x.accountLow(1, 0), 30);
        checks.due("ahead", x.accountLow(1, 19), 30);
        checks.due("on the day", x.accountLow(1, 20), -45);
        checks.due("the other one", x.accountLow(0, 10), 60);
        checks.dueThrows("account 2", Checks.OUT, () -> x.accountLow(2, -1));
        checks.dueThrows("account -1", Checks.OUT, () -> x.accountLow(-1, 0));
        checks.dueThrows("days -1", Checks.ILLEGAL, () -> x.accountLow(0, -1));
        checks.dueThrows("days 2001", Checks.ILLEGAL, () -> x.accountLow(0, 2001));
        EnvelopeBudget rising = Checks.budget("account 4;income 0 7 1 1;envelope 0 0 0;bill 0 0 10 1 0");
        checks.due("behind the day", rising.accountLow(0, 2000), 1);
    }

    private static void shortDay() {
        EnvelopeBudget x = Checks.budget("account 30;envelope 0 1 0;envelope 10 1 0 in 0;income 0 50 31 0;"
                + "bill 1 0 20 3 14;bill 1 0 90 58 0");
        checks.due("too short a time", x.shortDay(1, 16), EnvelopeBudget.NONE);
        checks.due("uncovered", x.shortDay(1, 17), 17);
        checks.due("the outer one gives, but lacks nothing", x.shortDay(0, 2000), EnvelopeBudget.NONE);
        x.run(20);
        checks.due("today", x.shortDay(1, 0), 20);
        x.deposit(0, 10);
        x.cover(1);
        checks.due("covered", x.shortDay(1, 10), EnvelopeBudget.NONE);
        checks.dueThrows("envelope 2", Checks.OUT, () -> x.shortDay(2, -1));
        checks.dueThrows("envelope -1", Checks.OUT, () -> x.shortDay(-1, 0));
        checks.dueThrows("days -1", Checks.ILLEGAL, () -> x.shortDay(0, -1));
        checks.dueThrows("days 2001", Checks.ILLEGAL, () -> x.shortDay(0, 2001));
    }

    private static void poolLow() {
        EnvelopeBudget x = Checks.budget(TEXT);
        checks.due("today", x.poolLow(0), 130);
        checks.due("a bill is covered", x.poolLow(5), 90);
        checks.due("also by day 20", x.poolLow(20), 25);
        checks.due("never negative by bills", x.poolLow(40), 0);
        checks.dueThrows("days -1", Checks.ILLEGAL, () -> x.poolLow(-1));
        checks.dueThrows("days 2001", Checks.ILLEGAL, () -> x.poolLow(2001));
        EnvelopeBudget ending = Checks.budget("account 5;fund 40 3 0 0;income 0 99 4 0");
        checks.due("negative by a fund that ends", ending.poolLow(10), -35);
    }

    private static void fundLack() {
        EnvelopeBudget x = Checks.budget("account 100;account 0;fund 60 20 25 1;fund 70 30 0 0;fund 9 2001 0 0;"
                + "fund 8 2000 0 0;envelope 0 0 0;bill 0 0 20 29 0;fund 5 1 0 0");
        checks.due("empty", x.fundLack(0), 60);
        checks.due("filled as far as the pool has", x.fundLack(1), 55);
        checks.due("too late", x.fundLack(2), EnvelopeBudget.GONE);
        checks.due("in 2000 days", x.fundLack(3), 8);
        x.give(0, 25);
        checks.due("partly filled", x.fundLack(0), 35);
        x.give(0, 75);
        checks.due("more than full", x.fundLack(0), 0);
        x.run(1);
        checks.due("no later than 2000 days", x.fundLack(2), 9);
        checks.due("ended", x.fundLack(4), EnvelopeBudget.GONE);
        checks.dueThrows("fund 5", Checks.OUT, () -> x.fundLack(5));
        checks.dueThrows("fund -1", Checks.OUT, () -> x.fundLack(-1));
        EnvelopeBudget both = Checks.budget("account 50;fund 50 10 0 0;fund 60 40 0 0;fund 40 40 0 0");
        checks.due("another fund pays before", both.fundLack(1), 60);
        both.deposit(0, 70);
        checks.due("what is left is given by numbers", both.fundLack(1), 0);
        checks.due("the next one gets the rest", both.fundLack(2), 30);
        EnvelopeBudget poor = Checks.budget("account 0;fund 60 20 25 0;income 0 50 44 0");
        poor.run(20);
        checks.due("a lack that remained is lacking, too", poor.fundLack(0), 120);
        checks.due("the month on its day fills it",
                Checks.budget("account 0;fund 60 30 0 0;income 0 45 30 0").fundLack(0), 15);
    }

    private static void billsWithin() {
        EnvelopeBudget x = Checks.budget(TEXT);
        long[][] due = {{0, 0}, {4, 0}, {5, 40}, {12, 80}, {19, 120}, {20, 195}, {45, 375}, {2000, 16255}};
        for (long[] row : due) {
            checks.due("bills within " + row[0], x.billsWithin((int) row[0]), row[1]);
        }
        x.run(20);
        checks.due("then", x.billsWithin(6), 40);
        checks.due("what came is past", x.billsWithin(0), 0);
        x.setTarget(0, 1000);
        checks.due("a fund's new target", x.billsWithin(25), 4 * 40 - 40 + 1000);
        checks.dueThrows("days -1", Checks.ILLEGAL, () -> x.billsWithin(-1));
        checks.dueThrows("days 2001", Checks.ILLEGAL, () -> x.billsWithin(2001));
        EnvelopeBudget once = Checks.budget("account 0;fund 7 9 0 0");
        checks.due("a fund that ends", once.billsWithin(2000), 7);
    }

    private static void safe() {
        EnvelopeBudget x = Checks.budget(TEXT);
        long[][] due = {{0, 130}, {5, 90}, {19, 90}, {20, 25}, {26, 0}, {2000, 0}};
        for (long[] row : due) {
            checks.due("safe " + row[0], x.safe((int) row[0]), row[1]);
        }
        checks.dueThrows("days -1", Checks.ILLEGAL, () -> x.safe(-1));
        checks.dueThrows("days 2001", Checks.ILLEGAL, () -> x.safe(2001));
    }

    private static void enough() {
        EnvelopeBudget x = Checks.budget("account 0;envelope 0 0 0;envelope 0 0 0 in 0;envelope 0 0 0;"
                + "bill 1 0 13 360 0;bill 1 0 9 361 1;bill 2 0 12 1 0;bill 2 0 24 30 30");
        checks.due("none", x.enough(0), 0);
        checks.due("13 in a year", x.enough(1), 2);
        checks.due("12 and 288", x.enough(2), 25);
        x.run(1);
        checks.due("the next 360 days", x.enough(1), 2);
        checks.due("288 without the one", x.enough(2), 24);
        checks.dueThrows("envelope 3", Checks.OUT, () -> x.enough(3));
        checks.dueThrows("envelope -1", Checks.OUT, () -> x.enough(-1));
        EnvelopeBudget dear = Checks.budget("account 0;envelope 0 0 0;"
                + Checks.repeated("bill 0 0 1000000 1 1;", 11) + "bill 0 0 1000000 1 1");
        checks.due("the most", dear.enough(0), 360000000);
    }

    private static void spentPerDay() {
        EnvelopeBudget x = Checks.budget("account 0;envelope 0 0 0;envelope 0 0 0");
        x.spend(0, 0, 10);
        checks.due("day 0", x.spentPerDay(0), 0.0);
        x.run(3);
        checks.due("a third", x.spentPerDay(0), 10.0 / 3.0);
        checks.due("nothing", x.spentPerDay(1), 0.0);
        checks.dueThrows("envelope 2", Checks.OUT, () -> x.spentPerDay(2));
        checks.dueThrows("envelope -1", Checks.OUT, () -> x.spentPerDay(-1));
    }

    private static void filled() {
        EnvelopeBudget x = Checks.budget("account 10;fund 60 5 25 0;fund 7 50 0 0;fund 3 5 0 0");
        checks.due("empty", x.filled(1), 0.0f);
        x.give(1, 3);
        checks.due("three sevenths", x.filled(1), 3.0f / 7.0f);
        x.give(1, 7);
        checks.due("more than full", x.filled(1), 10.0f / 7.0f);
        x.run(5);
        checks.due("negative", x.filled(0), 0.0f);
        checks.due("ended", x.filled(2), 1.0f);
        checks.dueThrows("fund 3", Checks.OUT, () -> x.filled(3));
        checks.dueThrows("fund -1", Checks.OUT, () -> x.filled(-1));
    }

    private static void lacks() {
        EnvelopeBudget x = Checks.budget("account 10;envelope 0 1 0;envelope 0 1 0;fund 60 5 25 0;fund 7 50 0 0");
        x.shift(-1, 1, 4);
        x.give(1, 5);
        checks.due("none", x.lacks(), 0);
        x.spend(0, 0, 9);
        checks.due("an envelope", x.lacks(), 8);
        x.run(5);
        checks.due("and a fund", x.lacks(), 68);
    }

    private static void dueNext() {
        EnvelopeBudget x = Checks.budget("account 10;envelope 0 1 0;fund 6 9 25 0;fund 7 4 0 0;fund 7 9 0 0;"
                + "bill 0 0 1 9 3;bill 0 0 1 3 0;bill 0 0 1 9 0;bill 0 0 1 20000 0");
        int[] due = {1, 101, 0, 2, 100, 102, 3, -1, -1};
        for (int i = 0; i < due.length; i++) {
            checks.due("dueNext " + i, x.dueNext(i), due[i]);
        }
        checks.due("dueNext -1", x.dueNext(-1), EnvelopeBudget.NONE);
        checks.due("dueNext 1000000000", x.dueNext(1000000000), EnvelopeBudget.NONE);
        x.run(9);
        int[] then = {0, 100, 3, -1};
        for (int i = 0; i < then.length; i++) {
            checks.due("dueNext then " + i, x.dueNext(i), then[i]);
        }
    }

    private static void bestDay() {
        EnvelopeBudget x = Checks.budget(TEXT);
        // 130; day 5: 90; 10: 180; 12: 140; 19: 100; 20: 25; 26: -15; 33: -55; 40: -5
        checks.due("any day is alike", x.bestDay(5, 4), 1);
        checks.due("ahead of the bill is worse", x.bestDay(50, 11), 10);
        checks.due("little is spent behind the tight day", x.bestDay(5, 19), 10);
        checks.due("what makes the later days tight", x.bestDay(1000, 19), 10);
        checks.due("the least stands at the end whatever is done", x.bestDay(20, 32), 1);
        checks.due("only behind the tightest day", x.bestDay(20, 40), 40);
        checks.due("one day", x.bestDay(1000000, 1), 1);
        x.run(10);
        checks.due("as a day", x.bestDay(1, 1), 11);
        checks.dueThrows("amount 0", Checks.ILLEGAL, () -> x.bestDay(0, 1));
        checks.dueThrows("amount 1000001", Checks.ILLEGAL, () -> x.bestDay(1000001, 1));
        checks.dueThrows("days 0", Checks.ILLEGAL, () -> x.bestDay(1, 0));
        checks.dueThrows("days 2001", Checks.ILLEGAL, () -> x.bestDay(1, 2001));
        EnvelopeBudget y = Checks.budget("account 10;account 0;envelope 0 0 0;bill 0 0 9 2 0;income 1 50 4 0");
        checks.due("today counts as it is", y.bestDay(3, 6), 4);
        checks.due("behind the income", y.bestDay(60, 6), 4);
        checks.due("without the income", y.bestDay(9, 3), 1);
    }
}
