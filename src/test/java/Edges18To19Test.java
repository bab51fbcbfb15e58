/** Promises 18 and 19 at their edges, with section 3 and what section 2 says of funds: days, months, allotments. */
final class Edges18To19Test {
    private static final String RICH = "account 900;account 100;envelope 50 2 10;envelope 20 0 0 in 0;fund 40 20 25 0;"
        + "fund 90 33 0 1;income 0 30 3 4;bill 0 1 5 2 6;bill 1 0 15 4 0;people 3";

    static void promise18_daysFrom1To400() {
        Run x = Run.of(RICH).due("run 1", 1);
        x.refused("run #", Run.ILLEGAL, 0, 401, -1, -400, Run.LEAST, Run.MOST).due("run 400", 401);
    }

    static void promise18_today20000ButNoDayBeyond() {
        Run x = Run.of(RICH).repeat(49, "run 400").make("run 399").due("day", 19999);
        x.refused("run #", Run.FULL, 2, 400).due("run 1", 20000).refused("run #", Run.FULL, 1, 400);
    }

    static void promise18_400DaysUpTo20000ButNot401Beyond() {
        Run.of(RICH).repeat(49, "run 400").due("run 400", 20000);
        Run.of(RICH).make("run 1").repeat(49, "run 400").refused("run #", Run.FULL, 400).due("run 399", 20000);
    }

    static void promise18_theExceptionComesBeforeFull() {
        Run.of(RICH).repeat(50, "run 400").refused("run #", Run.ILLEGAL, 0, 401, Run.MOST);
    }

    static void promise18_oneActionForAllItsDays() {
        Run.of(RICH).make("spend 0 0 9").undone("run 1").undone("run 29").undone("run 30").undone("run 400");
    }

    static void promise18_manyDaysAreAsManyTimesOne() {
        Run one = Run.of(RICH);
        Run many = one.twin().make("saveSnapshot 0");
        one.make("saveSnapshot 0").repeat(70, "run 1");
        many.make("run 70");
        one.make("saveSnapshot 1", "restoreSnapshot 1");
        many.make("saveSnapshot 1", "restoreSnapshot 1");
        one.alike(many);
    }

    static void promise18_aMonthBeginsOnDay30AndNotBeforeOrBehind() {
        Run.of("account 100;envelope 7 1 0").make("run 29").due("envelope 0 0", 0).due("count 7", 0).make("run 1")
            .due("envelope 0 0", 7).due("logPart 0 1", 30).make("run 29").due("envelope 0 0", 7).due("count 7", 1)
            .make("run 1").due("envelope 0 0", 14).due("logPart 0 1", 60).due("count 7", 2);
    }

    static void promise18_noMonthBeginsOnDay0() {
        Run.of("account 100;envelope 7 1 0").due("envelope 0 0", 0).due("count 7", 0).due("pool", 100);
    }

    static void promise18_aMonthBeginsOnDay19980AndNotOnDay20000() {
        Run.of("account 0").repeat(49, "run 400").make("run 379").due("logPart 0 1", 19950).make("run 1")
            .due("logPart 0 1", 19980).make("run 20").due("logPart 0 1", 19980);
    }

    static void promise18_incomesComeFirst() {
        Run.of("account 0;envelope 60 1 0;income 0 60 30 0").make("run 30").due("envelope 0 0", 60).due("pool", 0)
            .row("logPart 0", 3, 30, Run.NONE, 60, 0).row("logPart 1", 0, 30, 0, 60, 0);
        Run.of("account 0;envelope 60 1 0;income 0 60 31 0").make("run 31").due("envelope 0 0", 0).due("pool", 60);
    }

    static void promise18_theRolloverComesBeforeTheAllotment() {
        Run.of("account 50;envelope 50 0 0").make("allot", "run 30").due("envelope 0 0", 50).due("pool", 0)
            .due("logPart 0 3", 50);
    }

    static void promise18_theMonthComesBeforeTheBills() {
        Run.of("account 50;envelope 50 1 0;bill 0 0 50 30 0").make("run 30").due("envelope 0 0", 0)
            .due("pool", 0).due("logPart 0 4", 0).due("logPart 0 0", 1).due("logPart 1 0", 3);
        Run.of("account 50;envelope 50 0 0;bill 0 0 50 30 0").make("allot", "run 30").due("envelope 0 0", 0);
    }

    static void promise18_theBillsComeBeforeTheFunds() {
        Run.of("account 10;envelope 0 1 0;fund 10 5 0 0;bill 0 0 10 5 0").make("run 5").due("envelope 0 0", 0)
            .due("pool", -10).due("logPart 0 0", 2).due("logPart 0 4", 10).due("logPart 1 0", 1);
    }

    static void promise18_incomesByTheirNumbers() {
        Run.of("account 0;income 0 2 9 0;income 0 3 9 0;income 0 4 9 0").make("run 9")
            .each("logPart # 2", 2, 1, 0).each("logPart # 3", 4, 3, 2);
    }

    static void promise18_billsByTheirNumbers() {
        Run.of("account 5;envelope 0 1 0;envelope 0 1 0;bill 1 0 5 9 0;bill 0 0 5 9 0").make("run 9")
            .each("envelope # 0", -5, 0).each("logPart # 2", 1, 0).each("logPart # 4", 5, 0);
    }

    static void promise18_fundsByTheirNumbers() {
        Run.of("account 5;fund 5 9 9 0;fund 5 9 9 0").make("run 9").each("fund # 0", 0, -5)
            .each("logPart # 2", 1, 0).each("logPart # 4", 5, 0);
    }

    static void promise18_anIncomeComesOnItsDayAndNotBefore() {
        Run.of("account 1;account 2;income 1 9 3 0").make("run 2").due("account 1", 2).due("pool", 3).make("run 1")
            .due("account 1", 11).due("account 0", 1).due("pool", 12).make("run 400").due("account 1", 11);
    }

    static void promise18_anIncomeComesAgainWithEvery1ButNotWithEvery0() {
        Run.of("account 0;income 0 1 1 0;income 0 100 1 1").make("run 1").due("pool", 101).make("run 1")
            .due("pool", 201).make("run 1").due("pool", 301);
    }

    static void promise18_anIncomeComesAgain400DaysLater() {
        Run.of("account 0;income 0 1 1 400").make("run 400").due("pool", 1).make("run 1").due("pool", 2)
            .due("income 0 2", 801);
    }

    static void promise18_aBillIsDueOnItsDayAndNotBefore() {
        Run.of("account 50;envelope 0 1 0;bill 0 0 9 3 0").make("run 2").due("account 0", 50).make("run 1")
            .due("account 0", 41).due("pool", 41).make("run 400").due("account 0", 41);
    }

    static void promise18_aBillIsDueAgainWithEvery1ButNotWithEvery0() {
        Run.of("account 999;envelope 0 1 0;bill 0 0 1 1 0;bill 0 0 100 1 1").make("run 1").due("pool", 898)
            .make("run 1").due("pool", 798).make("run 1").due("pool", 698);
    }

    static void promise18_aBillIsDueAgain400DaysLater() {
        Run.of("account 9;envelope 0 1 0;bill 0 0 1 1 400").make("run 400").due("pool", 8).make("run 1")
            .due("pool", 7).due("bill 0 3", 801);
    }

    static void promise18_theRolloverTakesAllOfAPositiveBalanceWithMode0() {
        Run.of("account 9;envelope 0 0 5;envelope 0 0 9;envelope 0 0 0").make("shift -1 0 1", "shift -1 1 8", "run 29")
            .due("pool", 0).make("run 1").each("envelope # 0", 0, 0, 0).due("pool", 9);
    }

    static void promise18_theRolloverLeavesAnEnvelopeThatIsNotPositive() {
        Run.of("account 0;envelope 0 0 0;envelope 0 2 0;envelope 0 1 0;envelope 0 0 0")
            .make("spend 0 0 1", "spend 1 0 1", "spend 2 0 1", "run 30").each("envelope # 0", -1, -1, -1, 0)
            .due("pool", 0);
    }

    static void promise18_theRolloverTakesNothingWithMode1() {
        Run.of("account 9;envelope 0 1 0;envelope 0 1 5").make("shift -1 0 1", "shift -1 1 8", "run 30")
            .each("envelope # 0", 1, 8).due("pool", 0);
    }

    static void promise18_theRolloverTakesWhatIsAboveCapWithMode2() {
        Run.of("account 99;envelope 0 2 5;envelope 0 2 5;envelope 0 2 5;envelope 0 2 0")
            .make("shift -1 0 4", "shift -1 1 5", "shift -1 2 6", "shift -1 3 1", "run 29")
            .each("envelope # 0", 4, 5, 6, 1).due("pool", 83).make("run 1").each("envelope # 0", 4, 5, 5, 0)
            .due("pool", 85);
    }

    static void promise18_theMonthIsLoggedWithWhatTheAllotmentTook() {
        Run.of("account 9;envelope 5 1 0;envelope 5 1 0").make("run 30").due("logPart 0 3", 9).make("run 30")
            .due("logPart 0 3", 0);
        Run.of("account 20;envelope 5 0 0;fund 8 40 0 0").make("run 30").due("logPart 0 3", 13).make("run 30")
            .due("logPart 0 3", 5).due("pool", 7);
    }

    static void promise18_aFundPaysOnItsDayAndNotBefore() {
        Run.of("account 50;fund 9 3 0 0").make("run 2").due("account 0", 50).due("fund 0 5", 0).make("run 1")
            .due("account 0", 41).due("pool", 41).due("fund 0 5", 1).make("run 400").due("account 0", 41);
    }

    static void promise18_aFundThatHasTargetNeedsNoCover() {
        Run.of("account 50;fund 9 3 9 0").make("give 0 10", "run 3").due("fund 0 0", 1).due("pool", 40)
            .due("logPart 0 4", 0);
        Run.of("account 50;fund 9 3 9 0").make("give 0 9", "run 3").due("fund 0 0", 0).due("pool", 41)
            .due("logPart 0 4", 0);
        Run.of("account 50;fund 9 3 9 0").make("give 0 8", "run 3").due("fund 0 0", 0).due("pool", 41)
            .due("logPart 0 4", 0);
    }

    static void promise18_thePoolAloneCoversAFundAsFarAsItHas() {
        Run.of("account 9;account 50;envelope 0 1 0;fund 9 3 9 1").make("shift -1 0 50", "run 3").due("fund 0 0", 0)
            .due("pool", 0).due("envelope 0 0", 50).due("account 1", 41).due("logPart 0 4", 0);
        Run.of("account 8;account 50;envelope 0 1 0;fund 9 3 9 1").make("shift -1 0 50", "run 3").due("fund 0 0", -1)
            .due("pool", 0).due("envelope 0 0", 50).due("account 1", 41).due("logPart 0 4", 1);
    }

    static void promise18_aPoolThatIsNotPositiveCoversNothing() {
        Run.of("account 0;fund 9 3 9 0").make("run 3").due("fund 0 0", -9).due("pool", 0).due("logPart 0 4", 9);
        Run.of("account 0;fund 5 2 0 0;fund 9 3 9 0").make("run 2").due("pool", -5).make("run 1")
            .due("fund 1 0", -9).due("pool", -5).due("logPart 0 4", 9);
    }

    static void promise18_aLackOfAFundThatPaysAgainStays() {
        Run.of("account 0;fund 9 3 5 0").make("run 3").due("fund 0 0", -9).make("deposit 0 20", "run 4")
            .due("fund 0 0", -9).due("pool", 20).make("run 1").due("fund 0 0", 0).due("pool", 2)
            .due("logPart 0 4", 0);
    }

    static void promise18_aFundPaysAgainWithAgain1ButEndsWithAgain0() {
        Run.of("account 99;fund 1 3 0 0;fund 1 3 1 0").make("run 3").each("fund # 2", Run.NONE, 4).make("run 1")
            .each("fund # 2", Run.NONE, 5).each("fund # 5", 1, 2).due("account 0", 96);
        Run.of("account 99;fund 1 3 400 0").make("run 3").due("fund 0 2", 403).make("run 399").due("fund 0 5", 1)
            .make("run 1").due("fund 0 5", 2);
    }

    static void promise18_theBalanceOfAFundThatEndsGoesIntoThePool() {
        Run.of("account 50;fund 9 3 0 0").make("give 0 12", "run 3").due("fund 0 0", 0).due("pool", 41);
        Run.of("account 50;fund 9 3 0 0").make("give 0 9", "run 3").due("fund 0 0", 0).due("pool", 41);
        Run.of("account 8;fund 9 3 0 0").make("run 3").due("fund 0 0", 0).due("pool", -1).due("logPart 0 4", 1);
        Run.of("account 9;fund 9 3 0 0").make("run 3").due("fund 0 0", 0).due("pool", 0).due("logPart 0 4", 0);
    }

    static void promise18_aFundOnTheFirstDayOfAMonthIsFilledAheadOfPaying() {
        Run.of("account 40;envelope 40 1 0;fund 25 30 0 0").make("run 30").due("envelope 0 0", 15).due("pool", 0)
            .due("fund 0 2", Run.NONE).due("logPart 0 4", 0);
        Run.of("account 40;envelope 40 1 0;fund 25 31 0 0").make("run 30").due("fund 0 0", 25)
            .due("envelope 0 0", 15);
    }

    static void promise19_returnsHowMuchLessThePoolIs() {
        Run.of("account 10;envelope 4 1 0;envelope 5 1 0").due("allot", 9).due("pool", 1).due("allot", 1)
            .due("pool", 0).due("allot", 0).each("envelope # 0", 5, 5);
    }

    static void promise19_anActionThoughItChangesNothing() {
        Run.of("account 0;envelope 4 1 0").due("allot", 0).due("count 6", 1).due("undo", 0);
        new Run().due("allot", 0).due("count 6", 1).undone("allot");
        Run.of(RICH).make("run 3").undone("allot");
    }

    static void promise19_fundsComeBeforeEnvelopes() {
        Run.of("account 9;envelope 4 1 0;fund 9 20 0 0").due("allot", 9).due("fund 0 0", 9).due("envelope 0 0", 0);
        Run.of("account 10;envelope 4 1 0;fund 9 20 0 0").due("allot", 10).due("fund 0 0", 9).due("envelope 0 0", 1);
    }

    static void promise19_fundsByTheDaysOnWhichTheyPay() {
        Run.of("account 10;fund 9 22 0 0;fund 9 21 0 0;fund 9 20 0 0").due("allot", 10).each("fund # 0", 0, 1, 9);
        Run.of("account 10;fund 9 19999 0 0;fund 9 20 0 0").due("allot", 10).each("fund # 0", 1, 9);
    }

    static void promise19_fundsOfLikeDaysByTheirNumbers() {
        Run.of("account 19;fund 9 20 0 0;fund 9 20 0 0;fund 9 20 0 0").due("allot", 19).each("fund # 0", 9, 9, 1);
    }

    static void promise19_theNextDayOfAFundCountsNotItsFirstOne() {
        Run.of("account 10;fund 1 5 40 0;fund 9 44 0 0;fund 9 45 0 0").make("run 5", "setTarget 0 9").due("allot", 9)
            .each("fund # 0", 4, 5, 0);
    }

    static void promise19_aFundThatHasEndedGetsNothing() {
        Run.of("account 50;fund 9 5 0 0").make("run 4").undone("allot").make("run 1").due("allot", 0)
            .due("fund 0 0", 0).due("pool", 41);
    }

    static void promise19_aFundThatHasTargetOrMoreGetsNothing() {
        Run.of("account 50;fund 9 5 0 0").make("give 0 8").due("allot", 1).due("fund 0 0", 9);
        Run.of("account 50;fund 9 5 0 0").make("give 0 9").due("allot", 0).due("fund 0 0", 9);
        Run.of("account 50;fund 9 5 0 0").make("give 0 10").due("allot", 0).due("fund 0 0", 10);
    }

    static void promise19_aFundGetsItsNeedOfTheMonthsLeft() {
        Run.of("account 500;fund 100 30 0 0;fund 100 31 0 0;fund 100 60 0 0;fund 100 61 0 0").due("allot", 234)
            .each("fund # 0", 100, 50, 50, 34).due("allot", 25 + 25 + 22).each("fund # 0", 100, 75, 75, 56);
    }

    static void promise19_eachGetsNoMoreThanThePoolHas() {
        Run.of("account 8;fund 9 20 0 0").due("allot", 8).due("fund 0 0", 8).due("pool", 0);
        Run.of("account 9;fund 9 20 0 0").due("allot", 9).due("fund 0 0", 9).due("pool", 0);
        Run.of("account 3;envelope 4 1 0;envelope 4 1 0").due("allot", 3).each("envelope # 0", 3, 0).due("pool", 0);
        Run.of("account 4;envelope 4 1 0;envelope 4 1 0").due("allot", 4).each("envelope # 0", 4, 0);
        Run.of("account 5;envelope 4 1 0;envelope 4 1 0").due("allot", 5).each("envelope # 0", 4, 1);
    }

    static void promise19_nothingIfThePoolIsNotPositive() {
        String text = "envelope 10 1 0;fund 1 1 0 0;fund 50 9 0 0";
        Run.of("account 2;" + text).make("run 1").due("pool", 1).due("allot", 1).due("fund 1 0", 1);
        Run.of("account 1;" + text).make("run 1").due("pool", 0).due("allot", 0).due("fund 1 0", 0);
        Run.of("account 0;" + text).make("run 1").due("pool", -1).due("allot", 0).due("fund 1 0", 0)
            .due("envelope 0 0", 0).due("pool", -1);
    }

    static void promise19_envelopesByTheirNumbersEachGetMonthly() {
        Run.of("account 99;envelope 3 1 0;envelope 0 1 0 in 0;envelope 1 1 0").due("allot", 4)
            .each("envelope # 0", 3, 0, 1);
        Run.of("account 1000000;envelope 1000000 1 0;envelope 5 1 0").due("allot", 1000000)
            .each("envelope # 0", 1000000, 0);
    }

    static void promise19_anEnvelopeGetsMonthlyAboveWhatItHasOrLacks() {
        Run.of("account 0;envelope 3 2 1").make("spend 0 0 5", "deposit 0 99").due("allot", 3)
            .due("envelope 0 0", -2).due("allot", 3).due("envelope 0 0", 1).due("allot", 3).due("envelope 0 0", 4);
    }

    static void promise19_noRolloverWithoutANewMonth() {
        Run.of("account 99;envelope 3 0 0;envelope 5 2 1").due("allot", 8).due("allot", 8)
            .each("envelope # 0", 6, 10).due("count 7", 0);
    }

    public static void main(String[] args) {
        Cases.runAll(Edges18To19Test.class);
    }
}
