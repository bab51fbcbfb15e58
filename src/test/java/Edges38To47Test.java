import java.util.Arrays;

/** Promises 38 to 47 at their edges: forecasts, and what is reckoned from a budget. */
final class Edges38To47Test {
    /** Sums of the accounts: 130; day 5: 90; 10: 180; 12: 140; 19: 100; 20: 25; 26: -15; 33: -55; 40: -5. */
    private static final String TEXT = "account 100;account 30;envelope 50 0 0;envelope 20 1 0 in 0;"
        + "fund 60 20 25 1;income 0 90 10 30;bill 0 0 40 5 7;bill 1 1 15 20 0";

    private static final long[] NO_DAYS = {-1, 2001, Run.LEAST, Run.MOST};

    private static Run used() {
        return Run.of(TEXT).make("run 3", "spend 1 0 4", "allot", "saveSnapshot 0");
    }

    private static Run onDay20000(String text) {
        return Run.of(text).repeat(50, "run 400").due("day", 20000);
    }

    /** What a call answers today and behind each of the next days. */
    private static long[] behindTheDays(Run x, int days, String... calls) {
        Run passing = x.twin();
        long[] all = new long[days + 1];
        for (int i = 0; i <= days; i++) {
            for (String call : calls) {
                all[i] += (Long) passing.answer(call);
            }
            passing.make("run 1");
        }
        return all;
    }

    private static long least(long[] all) {
        return Arrays.stream(all).min().getAsLong();
    }

    static void promise38_theDaysPassAsRunLetsThem() {
        long[] sums = behindTheDays(used(), 70, "account 0", "account 1");
        int first = 0;
        while (sums[first] > least(sums)) {
            first++;
        }
        used().due("tightest 70 1", least(sums)).due("tightest 70 0", 3 + first);
    }

    static void promise39_theDaysPassAsRunLetsThem() {
        used().due("accountLow 0 70", least(behindTheDays(used(), 70, "account 0")))
            .due("accountLow 1 70", least(behindTheDays(used(), 70, "account 1")));
    }

    static void promise40_theDaysPassAsRunLetsThem() {
        long[] balances = behindTheDays(used(), 70, "envelope 0 0");
        int first = 0;
        while (balances[first] >= 0) {
            first++;
        }
        used().due("shortDay 0 70", 3 + first).due("shortDay 0 " + first, 3 + first)
            .due("shortDay 0 " + (first - 1), Run.NONE);
    }

    static void promise41_theDaysPassAsRunLetsThem() {
        for (int days : new int[] {0, 1, 20, 30, 70}) {
            used().due("poolLow " + days, least(behindTheDays(used(), days, "pool")));
        }
    }

    static void promise42_theDaysPassAsRunLetsThem() {
        String text = "account 50;envelope 9 0 0;fund 30 64 0 0;fund 20 12 13 0;income 0 40 8 9;bill 0 0 33 7 8";
        Run paid = Run.of(text).make("run 63");
        long balance = (Long) paid.answer("fund 0 0");
        Run.of(text).due("fundLack 0", 30 - balance);
        Cases.right(balance > 0 && balance < 30, "the fund has a part of its target, but has " + balance);
    }

    static void promise38_daysFrom0To2000() {
        used().refused("tightest # 0", Run.ILLEGAL, NO_DAYS).refused("tightest # 1", Run.ILLEGAL, NO_DAYS);
        Run.of("account 0;envelope 0 1 0;bill 0 0 1 2000 0;bill 0 0 1 2001 0").due("tightest 0 0", 0)
            .due("tightest 1999 0", 0).due("tightest 2000 0", 2000).due("tightest 2000 1", -1).make("run 1")
            .due("tightest 2000 0", 2001).due("tightest 2000 1", -2);
    }

    static void promise38_what0Or1() {
        used().refused("tightest 9 #", Run.ILLEGAL, -1, 2, Run.LEAST, Run.MOST).due("tightest 9 0", 5)
            .due("tightest 9 1", 86);
    }

    static void promise38_todayCounts() {
        Run.of(TEXT).due("tightest 0 0", 0).due("tightest 0 1", 130).due("tightest 4 0", 0).make("run 20")
            .due("tightest 0 0", 20).due("tightest 0 1", 25).due("tightest 5 0", 20).due("tightest 6 0", 26);
    }

    static void promise38_tomorrowIsTheFirstOfTheNextDays() {
        Run.of("account 9;envelope 0 1 0;income 0 5 2 0;bill 0 0 5 1 0").due("tightest 1 0", 1).due("tightest 1 1", 4)
            .due("tightest 9 0", 1).due("tightest 9 1", 4);
    }

    static void promise38_theLastOfTheDaysCounts() {
        Run.of(TEXT).due("tightest 25 0", 20).due("tightest 25 1", 25).due("tightest 26 0", 26)
            .due("tightest 26 1", -15);
    }

    static void promise38_theFirstOneOfSeveral() {
        Run.of("account 9;envelope 0 1 0;income 0 5 3 0;bill 0 0 5 2 0;bill 0 0 5 4 0").due("tightest 9 0", 2)
            .due("tightest 9 1", 4).due("tightest 1 0", 0);
        Run.of("account 9;envelope 0 1 0;income 0 5 3 0;bill 0 0 5 2 0;bill 0 0 6 4 0").due("tightest 9 0", 4)
            .due("tightest 9 1", 3);
    }

    static void promise38_behindTheDayNotWithinIt() {
        Run.of("account 9;envelope 0 1 0;income 0 5 3 0;bill 0 0 5 3 0").due("tightest 9 0", 0)
            .due("tightest 9 1", 9);
    }

    static void promise38_theDay20000DoesNotMatter() {
        onDay20000("account 0;envelope 0 1 0;bill 0 0 1 400 400").due("tightest 2000 0", 22000)
            .due("tightest 2000 1", -55).unchanged("tightest 2000 0", 22000);
    }

    static void promise38_nothingChanges() {
        used().unchanged("tightest 2000 1", -10099).unchanged("tightest 9 0", 5);
    }

    static void promise39_noSuchAccount() {
        used().refused("accountLow # 0", Run.OUT, -1, 2, 4, Run.LEAST, Run.MOST).due("accountLow 1 0", 30);
    }

    static void promise39_daysFrom0To2000() {
        used().refused("accountLow 0 #", Run.ILLEGAL, NO_DAYS);
        Run.of("account 0;envelope 0 1 0;bill 0 0 1 2000 0;bill 0 0 1 2001 0").due("accountLow 0 0", 0)
            .due("accountLow 0 1999", 0).due("accountLow 0 2000", -1);
    }

    static void promise39_noSuchAccountIsNamedFirst() {
        used().refused("accountLow # -1", Run.OUT, -1, 2).refused("accountLow 2 #", Run.OUT, 2001);
    }

    static void promise39_todayAndTheLastDayCount() {
        Run.of(TEXT).due("accountLow 1 19", 30).due("accountLow 1 20", -45).due("accountLow 0 10", 60)
            .make("run 5").due("accountLow 0 0", 60).due("accountLow 0 6", 60);
    }

    static void promise39_itsOwnBalanceWhateverTheOthersHold() {
        Run.of("account 9;account 8;account 7;account 6;income 0 5 1 0;fund 4 2 0 3").due("accountLow 0 9", 9)
            .due("accountLow 1 9", 8).due("accountLow 2 9", 7).due("accountLow 3 9", 2).due("accountLow 3 1", 6);
    }

    static void promise39_theDay20000DoesNotMatter() {
        onDay20000("account 0;account 0;envelope 0 1 0;bill 0 1 1 400 400").due("accountLow 1 399", -50)
            .due("accountLow 1 400", -51).due("accountLow 0 400", 0).unchanged("accountLow 1 2000", -55);
    }

    static void promise39_nothingChanges() {
        used().unchanged("accountLow 0 30", -14).unchanged("accountLow 1 2000", -4785);
    }

    static void promise40_noSuchEnvelope() {
        used().refused("shortDay # 0", Run.OUT, -1, 2, 10, Run.LEAST, Run.MOST).due("shortDay 1 0", Run.NONE);
    }

    static void promise40_daysFrom0To2000() {
        used().refused("shortDay 0 #", Run.ILLEGAL, NO_DAYS);
        Run.of("account 0;envelope 0 1 0;bill 0 0 1 2000 0").due("shortDay 0 0", Run.NONE)
            .due("shortDay 0 1999", Run.NONE).due("shortDay 0 2000", 2000);
    }

    static void promise40_noSuchEnvelopeIsNamedFirst() {
        used().refused("shortDay # -1", Run.OUT, -1, 2).refused("shortDay 2 #", Run.OUT, 2001);
    }

    static void promise40_negativeAndNot0() {
        Run.of("account 5;envelope 0 1 0;bill 0 0 5 3 0;bill 0 0 1 7 0").due("shortDay 0 6", Run.NONE)
            .due("shortDay 0 7", 7);
    }

    static void promise40_itsOwnBalanceWhateverTheAccountsHold() {
        Run.of("account 9;envelope 0 1 0;envelope 0 1 0;bill 0 0 4 3 0;bill 0 0 4 6 0").make("shift -1 1 9")
            .due("shortDay 0 2000", 3).due("shortDay 1 2000", Run.NONE);
        Run.of("account 9;envelope 0 1 0;envelope 0 1 0;bill 1 0 4 3 0").make("shift -1 0 9")
            .due("shortDay 1 2000", 3).due("shortDay 0 2000", Run.NONE);
        Run.of("account 0;envelope 0 1 0;fund 5 3 9 0").due("shortDay 0 2000", Run.NONE);
    }

    static void promise40_todayCounts() {
        Run.of("account 5;envelope 0 1 0;bill 0 0 6 3 0").due("shortDay 0 2", Run.NONE).due("shortDay 0 3", 3)
            .make("run 2").due("shortDay 0 0", Run.NONE).due("shortDay 0 1", 3).make("run 1").due("shortDay 0 0", 3)
            .make("run 9").due("shortDay 0 5", 12);
    }

    static void promise40_theFirstOneOfSeveral() {
        Run.of("account 0;envelope 9 1 0;income 0 90 30 0;bill 0 0 6 3 0;bill 0 0 99 40 0").due("shortDay 0 2000", 3)
            .make("run 30").due("shortDay 0 9", Run.NONE).due("shortDay 0 2000", 40);
    }

    static void promise40_behindTheDayNotWithinIt() {
        Run.of("account 0;envelope 9 1 0;income 0 9 30 0;bill 0 0 9 30 0").due("shortDay 0 99", Run.NONE);
        Run.of("account 0;envelope 9 1 0;income 0 9 30 0;bill 0 0 10 30 0").due("shortDay 0 99", 30);
    }

    static void promise40_theDay20000DoesNotMatter() {
        onDay20000("account 9;envelope 0 1 0;income 0 1 400 400;bill 0 0 60 19999 2").due("envelope 0 0", -2)
            .make("cover 0", "deposit 0 9", "cover 0").due("shortDay 0 0", Run.NONE).due("shortDay 0 1", 20001);
    }

    static void promise40_nothingChanges() {
        used().unchanged("shortDay 0 2000", 26).unchanged("shortDay 1 2000", Run.NONE);
    }

    static void promise41_daysFrom0To2000() {
        used().refused("poolLow #", Run.ILLEGAL, NO_DAYS);
        Run.of("account 9;envelope 0 1 0;bill 0 0 1 2000 0;bill 0 0 1 2001 0").due("poolLow 0", 9)
            .due("poolLow 1999", 9).due("poolLow 2000", 8);
    }

    static void promise41_todayAndTheLastDayCount() {
        Run.of(TEXT).due("poolLow 4", 130).due("poolLow 5", 90).make("run 5").due("poolLow 0", 90)
            .due("poolLow 6", 90).due("poolLow 7", 90).make("deposit 0 40").due("poolLow 7", 130)
            .due("poolLow 15", 65);
        Run.of("account 3;income 0 9 1 1").due("poolLow 0", 3).due("poolLow 9", 3);
    }

    static void promise41_negativeByAFundThatEnds() {
        Run.of("account 5;fund 5 3 0 0").due("poolLow 9", 0);
        Run.of("account 5;fund 6 3 0 0;income 0 9 4 0").due("poolLow 2", 5).due("poolLow 3", -1).due("poolLow 9", -1);
        Run.of("account 5;fund 6 3 9 0;income 0 9 4 0").due("poolLow 9", 0);
    }

    static void promise41_theDay20000DoesNotMatter() {
        onDay20000("account 90;envelope 0 1 0;bill 0 0 1 400 400").due("poolLow 399", 40).due("poolLow 400", 39)
            .unchanged("poolLow 2000", 35);
    }

    static void promise41_nothingChanges() {
        used().unchanged("poolLow 2000", 0);
    }

    static void promise42_noSuchFund() {
        used().refused("fundLack #", Run.OUT, -1, 1, 6, Run.LEAST, Run.MOST).due("fundLack 0", 0);
    }

    static void promise42_goneIfItHasEnded() {
        Run x = Run.of("account 9;fund 5 3 0 0").make("run 2").due("fundLack 0", 5).make("run 1");
        x.refused("fundLack #", Run.GONE, 0);
    }

    static void promise42_goneIfItPaysLaterThan2000DaysFromToday() {
        Run.of("account 10;fund 5 2000 0 0;fund 5 2001 0 0").due("fundLack 0", 0).refused("fundLack #", Run.GONE, 1)
            .make("run 1").due("fundLack 1", 0);
        Run.of("account 0;fund 5 2000 0 0;fund 6 2001 0 0").each("fundLack #", 5, Run.GONE).make("run 1")
            .each("fundLack #", 5, 6);
    }

    static void promise42_targetLessItsBalanceIfPositive() {
        Run.of("account 9;fund 5 3 9 0").due("fundLack 0", 5).make("give 0 4").due("fundLack 0", 1)
            .make("give 0 1").due("fundLack 0", 0).make("give 0 1").due("fundLack 0", 0);
    }

    static void promise42_aheadOfPayingAndNotBehind() {
        Run.of("account 99;fund 5 1 0 0").due("fundLack 0", 5);
        Run.of("account 99;fund 5 1 1 0").make("give 0 3").due("fundLack 0", 2);
    }

    static void promise42_aLackThatRemainedIsAddedToTarget() {
        Run.of("account 0;fund 5 3 4 0").make("run 3").due("fundLack 0", 10).make("deposit 0 4", "give 0 4")
            .due("fundLack 0", 6);
    }

    static void promise42_whenItPaysNextNotLater() {
        Run.of("account 0;fund 5 3 4 0;income 0 99 4 0").due("fundLack 0", 5).make("run 3")
            .due("fundLack 0", 10);
    }

    static void promise42_theMonthOnItsDayFillsIt() {
        Run.of("account 0;fund 60 30 0 0;income 0 45 30 0").due("fundLack 0", 15);
        Run.of("account 0;fund 60 29 0 0;income 0 45 29 0").due("fundLack 0", 60);
    }

    static void promise42_whatIsPaidBeforeItTakesFromThePool() {
        Run.of("account 60;envelope 0 1 0;fund 60 40 0 0;bill 0 0 9 29 0").due("fundLack 0", 9);
        Run.of("account 60;envelope 0 1 0;fund 60 40 0 0;bill 0 0 9 30 0").due("fundLack 0", 0);
        Run.of("account 60;fund 10 29 0 0;fund 60 40 0 0").due("fundLack 1", 10);
        Run.of("account 60;fund 10 9 10 0;fund 60 40 0 0").due("fundLack 1", 40);
        Run.of("account 60;fund 60 40 0 0;fund 10 40 0 0").each("fundLack #", 0, 10);
    }

    static void promise42_theDay20000DoesNotMatter() {
        Run x = onDay20000("account 0;fund 5 400 400 0").due("fund 0 2", 20400).due("fundLack 0", 255);
        x.unchanged("fundLack 0", 255);
    }

    static void promise42_nothingChanges() {
        used().unchanged("fundLack 0", 0);
        Run.of("account 50;fund 90 40 25 0").make("run 3").unchanged("fundLack 0", 40);
    }

    static void promise43_daysFrom0To2000() {
        used().refused("billsWithin #", Run.ILLEGAL, NO_DAYS);
        Run.of("account 0;envelope 0 1 0;bill 0 0 1 2000 0;bill 0 0 4 2001 0;fund 16 2000 0 0;fund 64 2001 0 0")
            .due("billsWithin 0", 0).due("billsWithin 1999", 0).due("billsWithin 2000", 17).make("run 1")
            .due("billsWithin 2000", 85);
    }

    static void promise43_theLastOfTheDaysCountsAndTodayDoesNot() {
        Run.of(TEXT).due("billsWithin 4", 0).due("billsWithin 5", 40).due("billsWithin 11", 40)
            .due("billsWithin 12", 80).due("billsWithin 19", 120).due("billsWithin 20", 195).make("run 5")
            .due("billsWithin 6", 0).due("billsWithin 7", 40).make("run 15").due("billsWithin 0", 0)
            .due("billsWithin 5", 0).due("billsWithin 6", 40).due("billsWithin 25", 3 * 40 + 60);
    }

    static void promise43_onceWithEvery0AndEachDayWithEvery1() {
        Run.of("account 0;envelope 0 1 0;bill 0 0 7 3 0").due("billsWithin 2000", 7);
        Run.of("account 0;envelope 0 1 0;bill 0 0 7 3 1").due("billsWithin 2", 0).due("billsWithin 3", 7)
            .due("billsWithin 4", 14).due("billsWithin 2000", 1998 * 7);
        Run.of("account 0;fund 7 3 0 0").due("billsWithin 2000", 7);
        Run.of("account 0;fund 7 3 1 0").due("billsWithin 2", 0).due("billsWithin 3", 7).due("billsWithin 4", 14)
            .due("billsWithin 2000", 1998 * 7);
    }

    static void promise43_whatIsDueNoMoreOrHasEndedIsNotCounted() {
        Run.of("account 99;envelope 0 1 0;bill 0 0 7 3 0;fund 9 3 0 0").make("run 2").due("billsWithin 2000", 16)
            .make("run 1").due("billsWithin 2000", 0);
    }

    static void promise43_theSumLiesBeyondTheRangeOfInt() {
        Run.of("account 0;envelope 0 1 0;" + "bill 0 0 1000000 1 1;".repeat(12) + "fund 1000000 1 1 0")
            .due("billsWithin 2000", 26000000000L).due("billsWithin 1", 13000000);
    }

    static void promise43_aFundPaysTargetWhateverItHas() {
        Run.of("account 99;fund 9 3 0 0").make("give 0 9").due("billsWithin 3", 9).make("setTarget 0 50")
            .due("billsWithin 3", 50);
    }

    static void promise43_nothingChangesAndTheDay20000DoesNotMatter() {
        used().unchanged("billsWithin 2000", 16255);
        onDay20000("account 0;envelope 0 1 0;bill 0 0 1 400 400").due("billsWithin 399", 0)
            .due("billsWithin 400", 1).due("billsWithin 2000", 5);
    }

    static void promise44_daysFrom0To2000() {
        used().refused("safe #", Run.ILLEGAL, NO_DAYS);
        Run.of("account 9;envelope 0 1 0;bill 0 0 1 2000 0;bill 0 0 1 2001 0").due("safe 0", 9)
            .due("safe 1999", 9).due("safe 2000", 8);
    }

    static void promise44_0IfTheSumWillBe0OrNegative() {
        String text = ";envelope 0 1 0;bill 0 0 9 3 0;income 0 90 4 0";
        Run.of("account 10" + text).due("safe 2", 10).due("safe 3", 1).due("safe 9", 1);
        Run.of("account 9" + text).due("safe 2", 9).due("safe 3", 0).due("safe 9", 0);
        Run.of("account 8" + text).due("safe 2", 8).due("safe 3", 0).due("safe 9", 0);
    }

    static void promise44_todayCounts() {
        Run.of("account 0;envelope 0 1 0;income 0 90 1 1").make("spend 0 0 1").due("safe 0", 0).due("safe 9", 0)
            .make("deposit 0 4").due("safe 0", 3).due("safe 9", 3);
    }

    static void promise44_allAccountsTogether() {
        Run.of("account 9;account 5;envelope 0 1 0;bill 0 1 8 1 0").due("safe 1", 6);
    }

    static void promise44_nothingChangesAndTheDay20000DoesNotMatter() {
        used().unchanged("safe 5", 86);
        onDay20000("account 90;envelope 0 1 0;bill 0 0 1 400 400").due("safe 399", 40).due("safe 400", 39);
    }

    static void promise45_noSuchEnvelope() {
        used().refused("enough #", Run.OUT, -1, 2, 10, Run.LEAST, Run.MOST).due("enough 1", 2);
    }

    static void promise45_dividedBy12AndRoundedUp() {
        String text = "account 0;envelope 0 1 0;bill 0 0 ";
        Run.of("account 0;envelope 0 1 0").due("enough 0", 0);
        Run.of(text + "1 1 0").due("enough 0", 1);
        Run.of(text + "11 1 0").due("enough 0", 1);
        Run.of(text + "12 1 0").due("enough 0", 1);
        Run.of(text + "13 1 0").due("enough 0", 2);
        Run.of(text + "24 1 0").due("enough 0", 2);
        Run.of(text + "25 1 0").due("enough 0", 3);
    }

    static void promise45_in360DaysButNotIn361() {
        Run.of("account 0;envelope 0 1 0;bill 0 0 12 361 0").due("enough 0", 0).make("run 1").due("enough 0", 1)
            .make("run 359").due("enough 0", 1).make("run 1").due("enough 0", 0);
        Run.of("account 0;envelope 0 1 0;bill 0 0 12 1 359").due("enough 0", 2);
        Run.of("account 0;envelope 0 1 0;bill 0 0 12 1 360").due("enough 0", 1);
    }

    static void promise45_itsOwnBillsAlone() {
        Run.of("account 0;envelope 0 1 0;envelope 0 1 0 in 0;envelope 0 1 0;bill 1 0 12 5 30;bill 2 0 24 9 30;"
            + "fund 99 3 3 0").each("enough #", 0, 12, 24);
    }

    static void promise45_theGreatestSum() {
        Run.of("account 0;envelope 0 1 0;" + "bill 0 0 1000000 1 1;".repeat(11) + "bill 0 0 1000000 1 1")
            .due("enough 0", 360000000);
    }

    static void promise45_nothingChangesAndTheDay20000DoesNotMatter() {
        used().unchanged("enough 0", 174);
        onDay20000("account 0;envelope 0 1 0;bill 0 0 1 1 1").due("enough 0", 30);
    }

    static void promise46_noSuchEnvelope() {
        used().refused("spentPerDay #", Run.OUT, -1, 2, 10, Run.LEAST, Run.MOST).due("spentPerDay 1", 4.0 / 3.0);
    }

    static void promise46_0OnDay0() {
        Run.of("account 9;envelope 0 1 0").make("spend 0 0 5").due("spentPerDay 0", 0.0).make("run 1")
            .due("spentPerDay 0", 5.0).make("run 1").due("spentPerDay 0", 2.5).make("run 1")
            .due("spentPerDay 0", 5.0 / 3.0);
    }

    static void promise46_nothingSpent() {
        Run.of("account 9;envelope 0 1 0").make("run 1").due("spentPerDay 0", 0.0);
    }

    static void promise46_aSumBeyondTheRangeOfInt() {
        Run.of("account 0;envelope 0 1 0;" + "bill 0 0 1000000 1 1;".repeat(11) + "bill 0 0 999999 1 1")
            .make("run 400").due("spentPerDay 0", 11999999.0).make("run 3", "spend 0 0 1")
            .due("spentPerDay 0", 4835999598.0 / 403.0);
    }

    static void promise47_noSuchFund() {
        used().refused("filled #", Run.OUT, -1, 1, 6, Run.LEAST, Run.MOST).due("filled 0", 1.0f);
        new Run().refused("filled #", Run.OUT, 0);
    }

    static void promise47_0IfTheBalanceIsNegativeOr0() {
        Run.of("account 0;fund 5 1 9 0").due("filled 0", 0.0f).make("run 1").due("filled 0", 0.0f)
            .make("deposit 0 9", "give 0 4").due("fund 0 0", -1).due("filled 0", 0.0f).make("give 0 1")
            .due("filled 0", 0.0f).make("give 0 1").due("filled 0", 1.0f / 5.0f);
    }

    static void promise47_1IfItHasEnded() {
        Run.of("account 9;fund 5 3 0 0").make("give 0 1", "run 2").due("filled 0", 1.0f / 5.0f).make("run 1")
            .due("filled 0", 1.0f);
        Run.of("account 0;fund 5 3 0 0").make("run 3").due("filled 0", 1.0f);
    }

    static void promise47_lessAndMoreThanFull() {
        Run.of("account 99;fund 7 9 0 0").make("give 0 6").due("filled 0", 6.0f / 7.0f).make("give 0 1")
            .due("filled 0", 1.0f).make("give 0 1").due("filled 0", 8.0f / 7.0f);
        Run.of("account 1;fund 1000000 9 0 0").make("give 0 1").due("filled 0", 1.0f / 1000000.0f);
    }

    static void promise47_aBalanceThatNoFloatHolds() {
        Run x = Run.of("account 1000000;fund 3 9 0 0").repeat(16, "deposit 0 1000000").repeat(16, "give 0 1000000");
        x.make("give 0 777217").due("fund 0 0", 16777217).due("filled 0", (float) 16777217L / 3.0f);
    }

    public static void main(String[] args) {
        Cases.runAll(Edges38To47Test.class);
    }
}
