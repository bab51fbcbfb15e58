/** Promises 20 to 30 at their edges, with section 2: what moves money or changes a description. */
final class Edges20To30Test {
    private static final String RICH = "account 900;account 100;envelope 50 2 10;envelope 20 0 0 in 0;fund 40 20 25 0;"
        + "fund 90 33 0 1;income 0 30 3 4;bill 0 1 5 2 6;bill 1 0 15 4 0;people 3";

    private static final long[] NO_AMOUNTS = {0, -1, 1000001, -1000000, Run.LEAST, Run.MOST};

    /** Has two accounts, two envelopes and two funds; the second of two bills is due no more, the third is. */
    private static Run rich() {
        return Run.of(RICH + ";bill 0 0 7 50 400").make("run 7", "saveSnapshot 0", "allot", "spend 0 0 9");
    }

    /** Envelope 2 lies in 1, 1 in 0; 3 lies in 0, too, and 4 in 2. */
    private static Run nested(int pool, int first, int second) {
        Run x = Run.of("account " + (pool + first + second) + ";account 0;envelope 0 1 0;envelope 0 1 0 in 0;"
            + "envelope 0 1 0 in 1;envelope 0 1 0 in 0;envelope 0 1 0 in 2;fund 900 400 0 0");
        x.make("deposit 0 70", "shift -1 3 40", "shift -1 4 20", "give 0 10");
        if (first > 0) {
            x.make("shift -1 0 " + first);
        }
        if (second > 0) {
            x.make("shift -1 1 " + second);
        }
        return x;
    }

    private static void covered(Run x, long itself, long nearest, long outer, long pool) {
        x.due("envelope 2 0", itself).due("envelope 1 0", nearest).due("envelope 0 0", outer).due("pool", pool)
            .due("envelope 3 0", 40).due("envelope 4 0", 20).due("fund 0 0", 10);
    }

    static void promise20_noSuchEnvelope() {
        rich().refused("spend # 0 1", Run.OUT, -1, 2, 10, Run.LEAST, Run.MOST).due("spend 1 0 1", 19);
    }

    static void promise20_noSuchAccount() {
        rich().refused("spend 0 # 1", Run.OUT, -1, 2, 4, Run.LEAST, Run.MOST).make("spend 0 1 1");
    }

    static void promise20_amountFrom1To1000000() {
        rich().refused("spend 0 0 #", Run.ILLEGAL, NO_AMOUNTS);
        Run.of("account 9;envelope 0 1 0").due("spend 0 0 1", 0).due("account 0", 8)
            .due("spend 0 0 1000000", -999992).due("account 0", -999992);
    }

    static void promise20_noSuchThingIsNamedBeforeTheAmount() {
        rich().refused("spend # 0 0", Run.OUT, -1, 2).refused("spend 0 # 0", Run.OUT, -1, 2)
            .refused("spend 2 2 #", Run.OUT, 0, 1000001);
    }

    static void promise20_anActionThatCanBeTakenBack() {
        rich().undone("spend 1 1 5").undone("spend 1 1 1000000");
    }

    static void promise20_bothBecomeLessByTheAmount() {
        Run.of("account 9;account 9;envelope 0 1 0").make("shift -1 0 8").due("spend 0 1 3", 5).due("account 1", 6)
            .due("account 0", 9).due("pool", 10).due("envelope 0 5", 3);
    }

    static void promise20_anEnvelopeOf0IsNotCoveredAndOneOfMinus1Is() {
        Run x = nested(50, 5, 5).make("shift -1 2 9").due("spend 2 1 9", 0);
        covered(x, 0, 5, 5, 41);
        x = nested(50, 5, 5).make("shift -1 2 9").due("spend 2 1 10", 0);
        covered(x, 0, 4, 5, 41);
    }

    static void promise20_theNearestGivesAllItHasBeforeTheNextOne() {
        Run x = nested(50, 5, 5).due("spend 2 1 5", 0);
        covered(x, 0, 0, 5, 50);
        x = nested(50, 5, 5).due("spend 2 1 6", 0);
        covered(x, 0, 0, 4, 50);
    }

    static void promise20_theOuterOneGivesAllItHasBeforeThePool() {
        Run x = nested(50, 5, 5).due("spend 2 1 10", 0);
        covered(x, 0, 0, 0, 50);
        x = nested(50, 5, 5).due("spend 2 1 11", 0);
        covered(x, 0, 0, 0, 49);
    }

    static void promise20_whatThePoolCannotCoverRemains() {
        Run x = nested(50, 5, 5).due("spend 2 1 60", 0);
        covered(x, 0, 0, 0, 0);
        x = nested(50, 5, 5).due("spend 2 1 61", -1);
        covered(x, -1, 0, 0, 0);
        x.due("spend 2 1 4", -5);
        covered(x, -5, 0, 0, 0);
    }

    static void promise20_anEmptyEnvelopeGivesNothing() {
        Run x = nested(50, 5, 0).due("spend 2 1 3", 0);
        covered(x, 0, 0, 2, 50);
        x = nested(50, 0, 0).due("spend 2 1 3", 0);
        covered(x, 0, 0, 0, 47);
    }

    static void promise20_aNegativeEnvelopeGivesNothingAndTheNextOneDoes() {
        Run x = nested(0, 0, 0).make("spend 1 1 7", "deposit 0 9", "shift -1 0 4").due("spend 2 1 3", 0);
        covered(x, 0, -7, 1, 5);
        x.due("spend 2 1 7", -1);
        covered(x, -1, -7, 0, 0);
    }

    static void promise20_aPoolThatIsNotPositiveGivesNothing() {
        Run.of("account 0;envelope 0 1 0").due("spend 0 0 1", -1).due("pool", 0);
        Run.of("account 0;envelope 0 1 0;fund 5 1 0 0").make("run 1").due("pool", -5).due("spend 0 0 1", -1)
            .due("pool", -5);
        Run.of("account 1;envelope 0 1 0").due("spend 0 0 1", 0).due("pool", 0);
    }

    static void promise20_aLackThatRemainedIsCoveredByALaterSpending() {
        Run.of("account 0;envelope 0 1 0;envelope 0 1 0 in 0").make("spend 1 0 7", "deposit 0 20")
            .due("envelope 1 0", -7).due("spend 1 0 1", 0).due("pool", 12);
        Run.of("account 0;envelope 0 1 0;envelope 0 1 0 in 0").make("spend 0 0 7", "deposit 0 20")
            .due("spend 1 0 1", 0).due("envelope 0 0", -7).due("pool", 19);
    }

    static void promise20_thePoolCoversOneThatLiesInNone() {
        Run.of("account 9;envelope 0 1 0;envelope 0 1 0 in 0;envelope 0 1 0").make("shift -1 1 2", "shift -1 2 3")
            .due("spend 0 0 5", -1).each("envelope # 0", -1, 2, 3).due("pool", 0);
    }

    static void promise20_theCoveringGoesThroughAllTenEnvelopes() {
        StringBuilder text = new StringBuilder("account 55;envelope 1 1 0");
        for (int i = 1; i < 10; i++) {
            text.append(";envelope 1 1 0 in ").append(i - 1);
        }
        Run.of(text.toString()).make("allot").due("pool", 45).due("spend 9 0 9", 0)
            .each("envelope # 0", 1, 0, 0, 0, 0, 0, 0, 0, 0, 0).due("spend 9 0 1", 0).due("envelope 0 0", 0)
            .due("pool", 45).due("spend 9 0 1", 0).due("pool", 44);
    }

    static void promise21_noSuchEnvelope() {
        Run x = rich();
        x.refused("shift # 0 1", Run.OUT, -2, 2, 10, Run.LEAST, Run.MOST);
        x.refused("shift 0 # 1", Run.OUT, -2, 2, 10, Run.LEAST, Run.MOST).due("shift 0 1 1", 40);
    }

    static void promise21_noneIsThePool() {
        Run.of("account 9;envelope 0 1 0").due("shift -1 0 4", 5).due("pool", 5).due("envelope 0 0", 4)
            .due("shift 0 -1 3", 1).due("pool", 8).due("envelope 0 0", 1);
    }

    static void promise21_bothTheSame() {
        rich().refused("shift # # 1", Run.ILLEGAL, -1, 0, 1).refused("shift # # 1", Run.OUT, -2, 2);
    }

    static void promise21_amountFrom1To1000000() {
        rich().refused("shift 0 1 #", Run.ILLEGAL, NO_AMOUNTS);
        Run.of("account 1000000;account 2;envelope 0 1 0").due("shift -1 0 1", 1000001)
            .due("shift -1 0 1000000", 1).due("envelope 0 0", 1000001);
    }

    static void promise21_noSuchEnvelopeIsNamedFirst() {
        rich().refused("shift 2 # 0", Run.OUT, 2, 0, -1).refused("shift # 2 0", Run.OUT, 0, -1, 2);
    }

    static void promise21_theExceptionsComeBeforeLack() {
        Run x = Run.of("account 0;envelope 0 1 0;envelope 0 1 0");
        x.refused("shift 0 0 #", Run.ILLEGAL, 1, 0).refused("shift 0 1 #", Run.ILLEGAL, 0, 1000001)
            .refused("shift 0 # 1", Run.OUT, 2, -2);
    }

    static void promise21_anEnvelopeHasTheAmountOrLess() {
        Run x = Run.of("account 9;envelope 0 1 0;envelope 0 1 0").make("shift -1 0 5");
        x.refused("shift 0 1 #", Run.LACK, 6, 1000000).due("shift 0 1 5", 0).due("envelope 1 0", 5);
        x.refused("shift 0 # 1", Run.LACK, 1, -1);
    }

    static void promise21_thePoolHasTheAmountOrLess() {
        Run x = Run.of("account 9;envelope 0 1 0").refused("shift -1 0 #", Run.LACK, 10, 1000000);
        x.due("shift -1 0 9", 0).refused("shift -1 0 #", Run.LACK, 1);
    }

    static void promise21_aNegativeEnvelopeOrPoolLacks() {
        Run x = Run.of("account 0;envelope 0 1 0;envelope 0 1 0;fund 1 1 0 0").make("spend 0 0 5", "run 1");
        x.refused("shift 0 1 #", Run.LACK, 1).refused("shift -1 1 #", Run.LACK, 1);
    }

    static void promise21_nothingIsCoveredByAShift() {
        Run.of("account 0;envelope 0 1 0;envelope 0 1 0 in 0").make("spend 1 0 9", "deposit 0 9", "shift -1 0 9")
            .due("envelope 1 0", -9).due("shift 0 1 4", 5).due("envelope 1 0", -5).due("shift 0 -1 5", 0)
            .due("envelope 1 0", -5).due("pool", 5);
    }

    static void promise21_anActionThatCanBeTakenBack() {
        rich().undone("shift -1 0 1").undone("shift 0 1 2").undone("shift 1 -1 3");
    }

    static void promise22_noSuchFund() {
        rich().refused("give # 1", Run.OUT, -1, 2, 6, Run.LEAST, Run.MOST).due("give 1 1", 91);
    }

    static void promise22_amountFromMinus1000000To1000000ButNot0() {
        rich().refused("give 0 #", Run.ILLEGAL, 0, 1000001, -1000001, Run.LEAST, Run.MOST);
        Run.of("account 1000000;account 3;fund 5 9 0 0").due("give 0 1", 1).due("give 0 -1", 0)
            .due("give 0 1000000", 1000000).due("give 0 -1000000", 0);
    }

    static void promise22_noSuchFundIsNamedFirst() {
        rich().refused("give 2 #", Run.OUT, 0, 1000001, -1000001).refused("give # 0", Run.OUT, -1);
    }

    static void promise22_goneIfItHasEnded() {
        Run x = Run.of("account 99;fund 5 9 0 0").make("run 8").due("give 0 1", 1).make("run 1");
        x.refused("give 0 #", Run.GONE, 1, 94, -1);
    }

    static void promise22_goneComesBeforeLackAndTheExceptionsBeforeBoth() {
        Run x = Run.of("account 99;fund 5 9 0 0").make("run 9").refused("give 0 #", Run.GONE, 1000000, -1000000);
        x.refused("give 0 #", Run.ILLEGAL, 0, 1000001, -1000001).refused("give # 1", Run.OUT, 1);
    }

    static void promise22_thePoolHasTheAmountOrLess() {
        Run.of("account 9;fund 5 9 0 0").refused("give 0 #", Run.LACK, 10, 1000000).due("give 0 9", 9).due("pool", 0)
            .refused("give 0 #", Run.LACK, 1);
    }

    static void promise22_theFundHasTheAmountOrLess() {
        Run x = Run.of("account 9;fund 5 9 0 0").refused("give 0 #", Run.LACK, -1).make("give 0 4");
        x.refused("give 0 #", Run.LACK, -5, -1000000).due("give 0 -4", 0).due("pool", 9);
    }

    static void promise22_aNegativeFundOrPoolLacks() {
        Run x = Run.of("account 0;fund 5 1 0 0;fund 5 1 9 0").make("run 1").due("pool", -5).due("fund 1 0", -5);
        x.refused("give 1 #", Run.LACK, 1, -1);
    }

    static void promise22_aNegativeFundMayBeFilled() {
        Run.of("account 0;fund 5 1 9 0").make("run 1", "deposit 0 7").due("give 0 4", -1).due("give 0 3", 2);
    }

    static void promise22_aFundMayHoldMoreThanTarget() {
        Run.of("account 9;fund 5 9 0 0").due("give 0 5", 5).due("give 0 1", 6);
    }

    static void promise22_anActionThatCanBeTakenBack() {
        rich().undone("give 0 1").undone("give 1 -1");
    }

    static void promise23_noSuchAccount() {
        rich().refused("transfer # 0 1", Run.OUT, -1, 2, 4, Run.LEAST, Run.MOST)
            .refused("transfer 0 # 1", Run.OUT, -1, 2, 4, Run.LEAST, Run.MOST).due("transfer 1 0 1", 94);
    }

    static void promise23_bothTheSame() {
        rich().refused("transfer # # 1", Run.ILLEGAL, 0, 1).refused("transfer # # 1", Run.OUT, -1, 2);
    }

    static void promise23_amountFrom1To1000000() {
        rich().refused("transfer 0 1 #", Run.ILLEGAL, NO_AMOUNTS);
        Run.of("account 5;account 6").due("transfer 0 1 1", 4).due("transfer 1 0 1000000", -999993)
            .due("account 0", 1000004);
    }

    static void promise23_noSuchAccountIsNamedFirst() {
        rich().refused("transfer 2 # 0", Run.OUT, 0, 2, -1).refused("transfer # 2 0", Run.OUT, 0, 1);
    }

    static void promise23_balancesMayBecomeNegative() {
        Run.of("account 5;account 6").due("transfer 0 1 5", 0).due("transfer 0 1 1", -1).due("account 1", 12)
            .due("pool", 11);
    }

    static void promise23_anActionThatCanBeTakenBack() {
        rich().undone("transfer 0 1 1").undone("transfer 1 0 1000000");
    }

    static void promise24_noSuchAccount() {
        rich().refused("deposit # 1", Run.OUT, -1, 2, 4, Run.LEAST, Run.MOST).due("deposit 1 1", 96);
    }

    static void promise24_amountFrom1To1000000() {
        rich().refused("deposit 0 #", Run.ILLEGAL, NO_AMOUNTS);
        Run.of("account 5;account 6").due("deposit 1 1", 7).due("pool", 12).due("deposit 0 1000000", 1000005)
            .due("pool", 1000012);
    }

    static void promise24_noSuchAccountIsNamedFirst() {
        rich().refused("deposit # 0", Run.OUT, -1, 2);
    }

    static void promise24_aDepositCoversNothing() {
        Run.of("account 0;envelope 0 1 0").make("spend 0 0 5").due("deposit 0 9", 4).due("envelope 0 0", -5)
            .due("pool", 9);
    }

    static void promise24_anActionThatCanBeTakenBack() {
        rich().undone("deposit 1 1");
    }

    static void promise25_noSuchEnvelope() {
        rich().refused("setMonthly # 1", Run.OUT, -1, 2, 10, Run.LEAST, Run.MOST).due("setMonthly 1 1", 20);
    }

    static void promise25_amountFrom0To1000000() {
        rich().refused("setMonthly 0 #", Run.ILLEGAL, -1, 1000001, Run.LEAST, Run.MOST)
            .due("setMonthly 0 0", 50).due("envelope 0 1", 0).due("setMonthly 0 1000000", 0)
            .due("envelope 0 1", 1000000).due("setMonthly 0 1", 1000000);
    }

    static void promise25_noSuchEnvelopeIsNamedFirst() {
        rich().refused("setMonthly # -1", Run.OUT, -1, 2);
    }

    static void promise25_anActionThoughItChangesNothing() {
        rich().undone("setMonthly 0 51").undone("setMonthly 0 50").due("setMonthly 0 50", 50).due("count 6", 4);
    }

    static void promise25_theNextAllotmentTakesIt() {
        Run.of("account 9;envelope 5 1 0").make("setMonthly 0 0").due("allot", 0).make("setMonthly 0 2")
            .due("allot", 2).due("envelope 0 0", 2);
    }

    static void promise26_noSuchEnvelope() {
        rich().refused("setMode # 0 0", Run.OUT, -1, 2, 10, Run.LEAST, Run.MOST).due("setMode 1 1 1", 0);
    }

    static void promise26_modeFrom0To2() {
        rich().refused("setMode 0 # 0", Run.ILLEGAL, -1, 3, Run.LEAST, Run.MOST).due("setMode 0 0 0", 2)
            .due("setMode 0 2 0", 0).due("setMode 0 1 0", 2).due("envelope 0 2", 1);
    }

    static void promise26_capFrom0To1000000() {
        rich().refused("setMode 0 2 #", Run.ILLEGAL, -1, 1000001, Run.LEAST, Run.MOST)
            .due("setMode 0 2 0", 2).due("envelope 0 3", 0).due("setMode 0 2 1000000", 2)
            .due("envelope 0 3", 1000000);
    }

    static void promise26_capIsTestedAlsoWithoutMode2() {
        rich().refused("setMode 0 0 #", Run.ILLEGAL, -1, 1000001).due("setMode 0 0 5", 2).due("envelope 0 3", 5);
    }

    static void promise26_noSuchEnvelopeIsNamedFirst() {
        rich().refused("setMode # 3 0", Run.OUT, -1, 2).refused("setMode # 0 -1", Run.OUT, -1, 2);
    }

    static void promise26_anActionThoughItChangesNothing() {
        rich().undone("setMode 0 1 3").undone("setMode 0 2 10").due("setMode 0 2 10", 2).due("count 6", 4);
    }

    static void promise26_theNextRolloverTakesIt() {
        Run.of("account 9;envelope 0 1 0").make("shift -1 0 7", "setMode 0 2 6", "run 30").due("envelope 0 0", 6)
            .make("setMode 0 0 6", "run 30").due("envelope 0 0", 0);
    }

    static void promise27_noSuchFund() {
        rich().refused("setTarget # 1", Run.OUT, -1, 2, 6, Run.LEAST, Run.MOST).due("setTarget 1 1", 90);
    }

    static void promise27_targetFrom1To1000000() {
        rich().refused("setTarget 0 #", Run.ILLEGAL, NO_AMOUNTS).due("setTarget 0 1", 40).due("fund 0 1", 1)
            .due("setTarget 0 1000000", 1).due("fund 0 1", 1000000);
    }

    static void promise27_goneIfItHasEnded() {
        Run x = Run.of("account 99;fund 5 9 0 0").make("run 8").due("setTarget 0 6", 5).make("run 1");
        x.refused("setTarget 0 #", Run.GONE, 1, 6, 1000000).due("fund 0 1", 6).due("account 0", 93);
    }

    static void promise27_theExceptionsComeBeforeGone() {
        Run.of("account 99;fund 5 9 0 0").make("run 9").refused("setTarget 0 #", Run.ILLEGAL, 0, 1000001)
            .refused("setTarget # 1", Run.OUT, 1, -1);
    }

    static void promise27_noSuchFundIsNamedFirst() {
        rich().refused("setTarget # 0", Run.OUT, -1, 2);
    }

    static void promise27_anActionThoughItChangesNothing() {
        rich().undone("setTarget 0 41").undone("setTarget 0 40").due("setTarget 0 40", 40).due("count 6", 4);
    }

    static void promise28_noSuchEnvelope() {
        rich().refused("addBill # 0 1 8 0", Run.OUT, -1, 2, 10, Run.LEAST, Run.MOST).due("addBill 1 0 1 8 0", 3);
    }

    static void promise28_noSuchAccount() {
        rich().refused("addBill 0 # 1 8 0", Run.OUT, -1, 2, 4, Run.LEAST, Run.MOST).due("addBill 0 1 1 8 0", 3);
    }

    static void promise28_amountFrom1To1000000() {
        rich().refused("addBill 0 0 # 8 0", Run.ILLEGAL, NO_AMOUNTS).due("addBill 0 0 1 8 0", 3)
            .due("addBill 0 0 1000000 8 0", 4).due("bill 3 2", 1).due("bill 4 2", 1000000);
    }

    static void promise28_firstFromTomorrowTo20000() {
        rich().refused("addBill 0 0 1 # 0", Run.ILLEGAL, 7, 6, 0, -1, 20001, Run.LEAST, Run.MOST)
            .due("addBill 0 0 1 8 0", 3).due("addBill 0 0 1 20000 0", 4).due("bill 3 3", 8).due("bill 4 3", 20000);
        Run.of("account 5;envelope 0 1 0").refused("addBill 0 0 1 # 0", Run.ILLEGAL, 0).due("addBill 0 0 1 1 0", 0);
    }

    static void promise28_noBillCanBeAddedOnDay20000() {
        Run x = Run.of("account 5;envelope 0 1 0").repeat(49, "run 400").make("run 399").due("addBill 0 0 1 20000 1", 0);
        x.make("run 1").due("account 0", 4).refused("addBill 0 0 1 # 1", Run.ILLEGAL, 20000, 20001);
    }

    static void promise28_everyFrom0To400() {
        rich().refused("addBill 0 0 1 8 #", Run.ILLEGAL, -1, 401, Run.LEAST, Run.MOST).due("addBill 0 0 1 8 0", 3)
            .due("addBill 0 0 1 8 400", 4).make("run 1").due("bill 3 3", Run.NONE).due("bill 4 3", 408);
    }

    static void promise28_noSuchThingIsNamedFirst() {
        rich().refused("addBill # 0 0 7 401", Run.OUT, -1, 2).refused("addBill 0 # 0 7 401", Run.OUT, -1, 2);
    }

    static void promise28_fullIfThereAre12() {
        Run x = Run.of("account 5;envelope 0 1 0;" + "bill 0 0 1 5 0;".repeat(10) + "bill 0 0 1 5 0");
        x.due("addBill 0 0 1 6 0", 11).due("count 4", 12).refused("addBill 0 0 1 # 0", Run.FULL, 6, 20000);
        x.make("dropBill 3").due("addBill 0 0 1 6 0", 11).refused("addBill 0 0 1 # 0", Run.FULL, 6);
    }

    static void promise28_fullAlsoIfTheyAreDueNoMore() {
        Run.of("account 5;envelope 0 1 0;" + "bill 0 0 1 5 0;".repeat(11) + "bill 0 0 1 5 0").make("run 5")
            .due("dueNext 0", Run.NONE).refused("addBill 0 0 1 # 0", Run.FULL, 6);
    }

    static void promise28_theExceptionsComeBeforeFull() {
        Run x = Run.of("account 5;envelope 0 1 0;" + "bill 0 0 1 5 0;".repeat(11) + "bill 0 0 1 5 0");
        x.refused("addBill 1 0 1 # 0", Run.OUT, 6).refused("addBill 0 1 1 # 0", Run.OUT, 6)
            .refused("addBill 0 0 # 6 0", Run.ILLEGAL, 0, 1000001).refused("addBill 0 0 1 # 0", Run.ILLEGAL, 0, 20001)
            .refused("addBill 0 0 1 6 #", Run.ILLEGAL, -1, 401);
    }

    static void promise28_behindTheOthers() {
        Run.of("account 5;account 6;envelope 0 1 0;envelope 0 1 0").due("addBill 1 0 7 9 3", 0)
            .due("addBill 0 1 8 2 0", 1).row("bill 0", 1, 0, 7, 9, 3).row("bill 1", 0, 1, 8, 2, 0);
    }

    static void promise28_anActionThatCanBeTakenBack() {
        rich().undone("addBill 1 1 4 300 5").undone("addBill 0 0 1 8 0");
    }

    static void promise29_noSuchBill() {
        rich().refused("dropBill #", Run.OUT, -1, 3, 11, 12, Run.LEAST, Run.MOST).due("dropBill 2", 2)
            .refused("dropBill #", Run.OUT, 2);
        new Run().refused("dropBill #", Run.OUT, 0);
    }

    static void promise29_thoseBehindItCountOneLess() {
        String text = "account 5;envelope 0 1 0;bill 0 0 1 5 1;bill 0 0 2 6 2;bill 0 0 3 7 3";
        Run.of(text).due("dropBill 0", 2).row("bill 0", 0, 0, 2, 6, 2).row("bill 1", 0, 0, 3, 7, 3)
            .due("bill 2 0", Run.OUT);
        Run.of(text).due("dropBill 1", 2).row("bill 0", 0, 0, 1, 5, 1).row("bill 1", 0, 0, 3, 7, 3);
        Run.of(text).due("dropBill 2", 2).row("bill 0", 0, 0, 1, 5, 1).row("bill 1", 0, 0, 2, 6, 2);
    }

    static void promise29_theLastOfAll() {
        Run.of("account 5;envelope 0 1 0;bill 0 0 1 5 1").due("dropBill 0", 0).due("count 4", 0)
            .refused("dropBill #", Run.OUT, 0).make("run 5").due("account 0", 5);
    }

    static void promise29_theFirstOfTwelve() {
        Run x = Run.of("account 5;envelope 0 1 0;bill 0 0 1 5 1;" + "bill 0 0 2 6 2;".repeat(10) + "bill 0 0 3 7 3");
        x.due("dropBill 0", 11).due("bill 10 2", 3).due("bill 9 2", 2).due("bill 11 2", Run.OUT);
    }

    static void promise29_alsoOneThatIsDueNoMore() {
        rich().due("bill 1 3", Run.NONE).due("dropBill 1", 2).row("bill 1", 0, 0, 7, 50, 400);
    }

    static void promise29_anActionThatCanBeTakenBack() {
        rich().undone("dropBill 0").undone("dropBill 1").undone("dropBill 2");
    }

    static void promise30_noSuchBill() {
        rich().refused("pay #", Run.OUT, -1, 3, 11, 12, Run.LEAST, Run.MOST).due("pay 2", 34);
        new Run().refused("pay #", Run.OUT, 0);
    }

    static void promise30_goneIfItIsDueNoMore() {
        rich().refused("pay #", Run.GONE, 1);
        Run.of("account 9;envelope 0 1 0;bill 0 0 5 3 0").make("run 2").due("pay 0", 0).due("bill 0 3", Run.NONE)
            .refused("pay #", Run.GONE, 0).make("run 1").due("account 0", 4);
    }

    static void promise30_itsNextDayIsEveryDaysLaterThanItWas() {
        Run.of("account 9;envelope 0 1 0;bill 0 0 1 3 1;bill 0 0 1 20000 400").due("pay 0", 0).due("bill 0 3", 4)
            .due("pay 0", 0).due("bill 0 3", 5).due("pay 1", 0).due("bill 1 3", 20400).due("pay 1", 0)
            .due("bill 1 3", 20800).make("run 5").due("account 0", 4).due("bill 0 3", 6);
    }

    static void promise30_asOnItsDay() {
        Run.of("account 9;account 0;envelope 0 1 0;envelope 0 1 0 in 0;bill 1 1 12 5 0")
            .make("shift -1 0 2", "shift -1 1 3", "run 2").due("pay 0", -3).due("account 1", -12)
            .due("envelope 0 0", 0).due("pool", 0).due("envelope 1 5", 12).row("logPart 0", 1, 2, 0, 12, 3);
    }

    static void promise30_theBalanceOfItsEnvelope() {
        Run.of("account 9;envelope 0 1 0;envelope 0 1 0;bill 1 0 2 5 0").make("shift -1 1 2").due("pay 0", 0);
        Run.of("account 9;envelope 0 1 0;envelope 0 1 0;bill 1 0 2 5 0").make("shift -1 1 3").due("pay 0", 1);
        Run.of("account 1;envelope 0 1 0;envelope 0 1 0;bill 1 0 2 5 0").due("pay 0", -1);
    }

    static void promise30_anActionThatCanBeTakenBack() {
        rich().undone("pay 0").undone("pay 2");
    }

    public static void main(String[] args) {
        Cases.runAll(Edges20To30Test.class);
    }
}
