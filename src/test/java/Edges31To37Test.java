/** Promises 31 to 37 at their edges, with sections 4 and 5: shared expenses, debts, taking back and the log. */
final class Edges31To37Test {
    private static final String FOUR = "account 500;account 100;envelope 50 1 0;envelope 20 1 0 in 0;people 4";

    /** As many of each kind as there may be. */
    static final String GREATEST = "account 10;account 11;account 12;account 13;" + "envelope 2 0 1;".repeat(9)
        + "envelope 3 2 1 in 8;" + "fund 6 3 4 0;".repeat(5) + "fund 6 3 4 3;" + "income 0 9 2 2;".repeat(3)
        + "income 3 8 3 3;" + "bill 0 0 1 2 2;".repeat(11) + "bill 9 3 7 3 3;people 6";

    private static final long[] NO_AMOUNTS = {0, -1, 1000001, -1000000, Run.LEAST, Run.MOST};

    private static Run four() {
        return Run.of(FOUR).make("allot", "saveSnapshot 0", "settle 1 2 0 9");
    }

    private static Run nets(Run x, long... due) {
        return x.each("net #", due);
    }

    /** Persons 1 to 5 owe or are owed what the amounts say; person 0 has the rest. */
    private static Run owed(long... amounts) {
        Run x = Run.of("account 0;people 6");
        for (int i = 0; i < amounts.length; i++) {
            if (amounts[i] != 0) {
                x.make("settle " + (amounts[i] > 0 ? i + 1 + " 0" : "0 " + (i + 1)) + " 0 " + Math.abs(amounts[i]));
            }
        }
        return x;
    }

    private static Run transfer(Run x, int index, long payer, long receiver, long amount) {
        return x.row("transferPart " + index, payer, receiver, amount);
    }

    static void promise31_payerIsAPerson() {
        four().refused("share # -1 0 9 2", Run.OUT, -1, 4, 5, 6, Run.LEAST, Run.MOST).due("share 3 -1 0 9 2", 0);
        Run.of("account 5;envelope 0 1 0").refused("share # -1 0 9 1", Run.OUT, 1).due("share 0 0 0 9 1", 9);
    }

    static void promise31_anAccountIfThePayerIsPerson0() {
        four().refused("share 0 # 0 9 3", Run.OUT, -1, 2, 4, Run.LEAST, Run.MOST).due("share 0 1 0 9 3", 5)
            .due("account 1", 91).due("share 0 0 0 1 2", 0).due("account 0", 499);
    }

    static void promise31_noneIfThePayerIsAnotherOne() {
        four().refused("share 1 # 0 9 3", Run.ILLEGAL, 0, 1, 2, -2, Run.LEAST, Run.MOST).due("share 1 -1 0 9 3", 5)
            .each("account #", 500, 100);
    }

    static void promise31_anEnvelopeIfPerson0HasAPart() {
        four().refused("share 1 -1 # 9 3", Run.OUT, -1, 2, 10, Run.LEAST, Run.MOST).due("share 1 -1 1 9 3", 5)
            .due("envelope 1 0", 15);
    }

    static void promise31_anyNumberIfPerson0HasNoPart() {
        for (long any : new long[] {-1, 2, 10, Run.LEAST, Run.MOST}) {
            four().due("share 1 -1 " + any + " 9 6", 0).each("envelope # 0", 50, 20).each("envelope # 5", 0, 0);
        }
        four().due("share 0 0 7 9 14", 0).each("envelope # 0", 50, 20).due("account 0", 491);
    }

    static void promise31_theBitOfPerson0CountsWhateverElseIsInTheSet() {
        four().refused("share 1 -1 2 9 #", Run.OUT, 1, 17, 16 + 15, -1, Run.MOST, Run.LEAST + 1)
            .refused("share 1 -1 2 9 #", Run.ILLEGAL, 0, 16, -2, Run.LEAST);
    }

    static void promise31_amountFrom1To1000000() {
        four().refused("share 1 -1 0 # 3", Run.ILLEGAL, NO_AMOUNTS).due("share 1 -1 0 1 3", 1)
            .due("share 1 -1 0 1000000 3", 500000);
        four().refused("share 0 0 0 # 3", Run.ILLEGAL, NO_AMOUNTS);
    }

    static void promise31_aSetOfAtLeastOnePerson() {
        four().refused("share 1 -1 0 9 #", Run.ILLEGAL, 0, 16, 17, 32, 64, -1, -2, Run.LEAST, Run.MOST)
            .due("share 1 -1 0 9 1", 9).due("share 1 -1 0 9 8", 0).due("share 1 -1 0 9 15", 3);
        Run.of("account 5;envelope 0 1 0").refused("share 0 0 0 9 #", Run.ILLEGAL, 0, 2, 3).due("share 0 0 0 9 1", 9);
        Run.of("account 5;envelope 0 1 0;people 6").refused("share 0 0 0 9 #", Run.ILLEGAL, 64, 65)
            .due("share 0 0 0 9 63", 2).due("share 0 0 0 9 32", 0);
    }

    static void promise31_whatIsMissingIsNamedFirst() {
        four().refused("share # 0 2 0 0", Run.OUT, 4, -1).refused("share 0 # 0 0 0", Run.OUT, -1, 2)
            .refused("share 1 0 # 0 1", Run.OUT, -1, 2);
    }

    static void promise31_dividedWithoutARest() {
        nets(Run.of(FOUR).due("share 0 0 0 12 15", 3), 9, -3, -3, -3);
    }

    static void promise31_aRestOf1GoesToTheSmallestNumber() {
        nets(Run.of(FOUR).due("share 0 0 0 13 15", 4), 9, -3, -3, -3);
        nets(Run.of(FOUR).due("share 3 -1 0 7 14", 0), 0, -3, -2, 5);
    }

    static void promise31_aRestOfOneLessThanTheyAre() {
        nets(Run.of(FOUR).due("share 0 0 0 15 15", 4), 11, -4, -4, -3);
        nets(Run.of(FOUR).due("share 3 -1 0 8 14", 0), 0, -3, -3, 6);
    }

    static void promise31_anAmountLessThanTheyAre() {
        nets(Run.of(FOUR).due("share 3 -1 0 1 15", 1), -1, 0, 0, 1);
        nets(Run.of(FOUR).due("share 3 -1 0 3 15", 1), -1, -1, -1, 3);
        nets(Run.of(FOUR).due("share 0 0 0 1 14", 0), 1, -1, 0, 0);
    }

    static void promise31_thePayerAloneOwesNobody() {
        nets(Run.of(FOUR).due("share 2 -1 0 9 4", 0), 0, 0, 0, 0);
        nets(Run.of(FOUR).due("share 0 0 0 9 1", 9), 0, 0, 0, 0).due("account 0", 491).due("envelope 0 5", 9);
    }

    static void promise31_thePayerNeedNotShare() {
        nets(Run.of(FOUR).due("share 0 1 0 9 2", 0), 9, -9, 0, 0).due("account 1", 91).due("envelope 0 5", 0);
        nets(Run.of(FOUR).due("share 2 -1 0 9 1", 9), -9, 0, 9, 0).each("account #", 500, 100);
    }

    static void promise31_thePartOfPerson0IsCoveredAsByASpending() {
        Run.of(FOUR).make("allot").due("share 1 -1 1 40 3", 20).each("envelope # 0", 50, 0).due("pool", 530);
        Run.of(FOUR).make("allot").due("share 1 -1 1 41 3", 21).each("envelope # 0", 49, 0).due("pool", 530);
        Run.of(FOUR).make("allot").due("share 1 -1 1 140 3", 70).each("envelope # 0", 0, 0).due("pool", 530);
        Run.of(FOUR).make("allot").due("share 1 -1 1 141 3", 71).each("envelope # 0", 0, 0).due("pool", 529);
        Run.of(FOUR).make("allot").due("share 1 -1 1 600 1", 600).each("envelope # 0", 0, 0).due("pool", 0);
        Run.of(FOUR).make("allot").due("share 1 -1 1 601 1", 601).each("envelope # 0", 0, -1).due("pool", 0);
    }

    static void promise31_aPartOf1IsSpentAndAPartOf0IsNot() {
        Run.of(FOUR).make("allot").due("share 1 -1 0 1 15", 1).due("envelope 0 0", 49).due("envelope 0 5", 1);
        Run.of(FOUR).make("allot").due("share 1 -1 0 1 14", 0).due("envelope 0 0", 50).due("envelope 0 5", 0);
    }

    static void promise31_nothingIsCoveredIfPerson0HasNoPart() {
        Run x = Run.of("account 0;envelope 0 1 0;people 3").make("spend 0 0 5", "deposit 0 9");
        x.due("share 1 -1 0 9 6", 0).due("envelope 0 0", -5).due("share 0 0 0 9 2", 0).due("envelope 0 0", -5)
            .due("share 1 -1 0 9 1", 9).due("envelope 0 0", -5).due("pool", 0);
    }

    static void promise31_theAccountBecomesLessByTheWholeAmount() {
        Run.of(FOUR).due("share 0 1 0 101 15", 26).due("account 1", -1).due("account 0", 500);
    }

    static void promise31_anActionThatCanBeTakenBack() {
        four().undone("share 0 1 1 100 7").undone("share 2 -1 0 100 6").undone("share 1 -1 0 1 1");
    }

    static void promise32_fromAndToArePersons() {
        four().refused("settle # 1 0 9", Run.OUT, -1, 4, 6, Run.LEAST, Run.MOST)
            .refused("settle 1 # 0 9", Run.OUT, -1, 4, 6, Run.LEAST, Run.MOST).due("settle 3 1 0 9", 9)
            .due("settle 1 3 0 9", 9);
        Run.of("account 5").refused("settle 0 # 0 9", Run.OUT, 1).refused("settle # 0 0 9", Run.OUT, 1);
    }

    static void promise32_anAccountIfOneOfBothIsPerson0() {
        four().refused("settle 0 1 # 9", Run.OUT, -1, 2, 4, Run.LEAST, Run.MOST)
            .refused("settle 1 0 # 9", Run.OUT, -1, 2, 4, Run.LEAST, Run.MOST).due("settle 0 1 1 9", 9)
            .due("account 1", 91).due("settle 1 0 0 4", 4).due("account 0", 504);
    }

    static void promise32_anyNumberIfNoneOfBothIsPerson0() {
        for (long any : new long[] {-1, 0, 2, Run.LEAST, Run.MOST}) {
            four().due("settle 3 1 " + any + " 9", 9).each("account #", 500, 100);
        }
    }

    static void promise32_bothTheSame() {
        four().refused("settle # # 0 9", Run.ILLEGAL, 0, 1, 3).refused("settle # # 0 9", Run.OUT, -1, 4);
    }

    static void promise32_amountFrom1To1000000() {
        four().refused("settle 1 2 0 #", Run.ILLEGAL, NO_AMOUNTS).refused("settle 0 2 0 #", Run.ILLEGAL, NO_AMOUNTS)
            .due("settle 3 1 0 1", 1).due("settle 3 1 0 1000000", 1000001);
    }

    static void promise32_whatIsMissingIsNamedFirst() {
        four().refused("settle # 0 0 0", Run.OUT, 4).refused("settle 0 1 # 0", Run.OUT, 2)
            .refused("settle 1 0 # 0", Run.OUT, -1).refused("settle 1 # 0 0", Run.OUT, 4);
    }

    static void promise32_thePoolAndTheEnvelopesStay() {
        four().due("pool", 530).make("settle 0 1 0 1000000", "settle 2 0 0 7").due("pool", 530)
            .each("envelope # 0", 50, 20).due("account 0", -999493);
    }

    static void promise32_anActionThatCanBeTakenBack() {
        four().undone("settle 0 1 0 9").undone("settle 1 0 1 9").undone("settle 1 3 0 9");
    }

    static void promise33_noSuchPerson() {
        four().refused("net #", Run.OUT, -1, 4, 5, 6, Run.LEAST, Run.MOST).due("net 3", 0);
        Run.of("account 0;people 6").due("net 5", 0).refused("net #", Run.OUT, 6);
        new Run().due("net 0", 0).refused("net #", Run.OUT, 1);
    }

    static void promise33_owedOwingOrNeither() {
        nets(four(), 0, 9, -9, 0).due("share 1 -1 0 4 15", 1);
        nets(four().make("share 1 -1 0 4 15"), -1, 12, -10, -1);
    }

    static void promise34_noneIfNobodyOwesAnything() {
        new Run().due("transfers", 0).due("transferPart 0 0", Run.NO_VALUE);
        Run.of(FOUR).make("settle 1 2 0 9").due("transfers", 1).make("settle 2 1 0 9").due("transfers", 0);
    }

    static void promise34_fiveAtMost() {
        Run x = owed(-1, -2, -3, -4, -5).due("transfers", 5);
        transfer(x, 0, 5, 0, 5);
        transfer(x, 4, 1, 0, 1).refused("transferPart 5 #", Run.NO_VALUE, 0, 1, 2);
        transfer(owed(1, 2, 3, 4, 5).due("transfers", 5), 0, 0, 5, 5);
    }

    static void promise34_theLesserOneOfBothAmounts() {
        Run x = transfer(owed(5, -7).due("transfers", 2), 0, 2, 1, 5);
        transfer(x, 1, 2, 0, 2);
        x = transfer(owed(7, -5).due("transfers", 2), 0, 2, 1, 5);
        transfer(x, 1, 0, 1, 2);
        transfer(owed(5, -5).due("transfers", 1), 0, 2, 1, 5);
    }

    static void promise34_ofSeveralAlikeTheSmallestNumber() {
        Run x = owed(5, 5, -5, -5).due("transfers", 2);
        transfer(x, 0, 3, 1, 5);
        transfer(x, 1, 4, 2, 5);
        x = owed(-5, 0, 0, 0, 0).due("transfers", 1);
        transfer(x, 0, 1, 0, 5);
        x = owed(5, 5, 0, 0, -5).due("transfers", 2);
        transfer(x, 0, 0, 1, 5);
        transfer(x, 1, 5, 2, 5);
    }

    static void promise34_theGreatestAndTheLeastAreReckonedAnewEachTime() {
        Run x = owed(90, 25, 15, -45, -70).due("transfers", 4);
        transfer(x, 0, 5, 1, 70);
        transfer(x, 1, 4, 2, 25);
        transfer(x, 2, 4, 1, 20);
        transfer(x, 3, 0, 3, 15);
    }

    static void promise34_nothingChangesByThem() {
        owed(90, 25, 15, -45, -70).unchanged("transfers", 4).unchanged("transferPart 0 2", 70);
    }

    static void promise35_whatFrom0To2() {
        owed(5, -7).refused("transferPart 0 #", Run.ILLEGAL, -1, 3, Run.LEAST, Run.MOST)
            .row("transferPart 0", 2, 1, 5);
    }

    static void promise35_noValueIfThereIsNoSuchTransfer() {
        owed(5, -7).refused("transferPart # 0", Run.NO_VALUE, -1, 2, 5, 6, Run.LEAST, Run.MOST)
            .due("transferPart 1 0", 2);
        owed().refused("transferPart # 2", Run.NO_VALUE, -1, 0, 1);
    }

    static void promise35_theExceptionComesBeforeNoValue() {
        owed(5, -7).refused("transferPart 2 #", Run.ILLEGAL, -1, 3).refused("transferPart -1 #", Run.ILLEGAL, -1, 3);
    }

    static void promise35_withoutAskingForTheirNumberAndAsTheNetsAreNow() {
        Run x = transfer(owed(5), 0, 0, 1, 5).make("settle 0 1 0 2");
        transfer(x, 0, 0, 1, 3).make("undo");
        transfer(x, 0, 0, 1, 5);
    }

    static void promise36_noneAndNothingChangesIfThereIsNone() {
        new Run().unchanged("undo", Run.NONE);
        Run.of(FOUR).make("saveSnapshot 0").unchanged("undo", Run.NONE).make("allot").due("undo", 0)
            .unchanged("undo", Run.NONE);
    }

    static void promise36_theLatest8ButNotThe9th() {
        Run x = Run.of("account 0").repeat(8, "deposit 0 1").due("count 6", 8);
        x.due("undo", 7).repeat(6, "undo").due("undo", 0).due("account 0", 0).unchanged("undo", Run.NONE);
        x = Run.of("account 0").repeat(9, "deposit 0 1").due("count 6", 8);
        x.due("undo", 7).repeat(6, "undo").due("undo", 0).due("account 0", 1).unchanged("undo", Run.NONE);
    }

    static void promise36_theLatestActionThatWasNotTakenBack() {
        Run x = Run.of("account 0").make("deposit 0 1", "deposit 0 10", "deposit 0 100").due("undo", 2)
            .due("account 0", 11).due("undo", 1).due("account 0", 1).make("deposit 0 1000").due("count 6", 2);
        x.due("undo", 1).due("account 0", 1).due("undo", 0).due("account 0", 0).due("undo", Run.NONE);
    }

    static void promise36_eightAgainBehindManyThatWereTakenBack() {
        Run x = Run.of("account 0").repeat(12, "deposit 0 1").repeat(5, "undo").due("account 0", 7).due("count 6", 3);
        x.repeat(6, "deposit 0 10").due("count 6", 8).repeat(8, "undo").due("account 0", 5)
            .unchanged("undo", Run.NONE);
    }

    static void promise36_eachActionIsTakenBackWhole() {
        String[] actions = {"run 47", "allot", "spend 1 1 33", "shift -1 0 7", "give 0 9", "transfer 0 1 5",
            "deposit 1 8", "setMonthly 1 3", "setMode 0 1 77", "setTarget 0 6", "addBill 1 1 4 300 5", "dropBill 0",
            "pay 0", "share 0 1 1 100 7", "share 2 -1 0 100 6", "settle 1 0 0 60", "cover 1", "postpone 0 9"};
        for (String action : actions) {
            Run x = Run.of("account 900;account 100;envelope 50 2 10;envelope 20 1 0 in 0;fund 40 20 25 0;"
                + "income 0 30 3 4;bill 0 1 5 2 6;bill 1 0 15 4 0;people 3");
            x.make("run 7", "spend 1 1 1200", "deposit 0 11").undone(action);
            x.differs(x.twin().make(action), Later.Part.STATE);
        }
    }

    static void promise36_alsoOfTheLastOfEachKind() {
        Run x = Run.of(GREATEST).make("settle 4 5 0 2", "run 2");
        x.undone("settle 5 4 0 9").undone("give 5 1").undone("spend 9 3 1").undone("run 3").undone("dropBill 11")
            .undone("pay 11").undone("postpone 11 1").undone("setTarget 5 1").undone("setMonthly 9 1")
            .undone("transfer 3 2 1").undone("share 5 -1 9 7 63");
    }

    static void promise36_aRefusedCallIsNoAction() {
        Run x = Run.of("account 0;envelope 0 1 0;fund 5 1 0 0;bill 0 0 1 1 0").make("deposit 0 9", "run 1");
        String[] calls = {"run 0", "spend 0 0 0", "shift 0 -1 1", "give 0 1", "transfer 0 0 1", "deposit 1 1",
            "setMonthly 0 -1", "setMode 0 3 0", "setTarget 0 1", "addBill 0 0 1 1 0", "dropBill 1", "pay 0",
            "share 0 0 0 1 0", "settle 0 0 0 1", "cover 1", "postpone 0 1"};
        for (String call : calls) {
            x.unchanged(call, x.twin().answer(call)).due("count 6", 2);
        }
    }

    static void promise36_eachActionCountsThoughItChangesNothing() {
        String[] calls = {"allot", "setMonthly 0 0", "setMode 0 1 0", "setTarget 0 5", "cover 0"};
        Run x = Run.of("account 0;envelope 0 1 0;fund 5 9 0 0");
        for (int i = 0; i < calls.length; i++) {
            x.make(calls[i]).due("count 6", i + 1);
        }
        x.each("envelope 0 #", 0, 0, 1, 0).due("fund 0 1", 5).due("pool", 0).due("undo", 4);
    }

    static void promise36_whatIsNoActionCannotBeTakenBack() {
        Run x = Run.of(FOUR).make("allot");
        String[] calls = {"append 97", "saveSnapshot 1", "tightest 100 0", "accountLow 0 9", "shortDay 0 9", "poolLow 9",
            "billsWithin 9", "safe 9", "bestDay 9 9", "dueNext 0", "transfers", "transferPart 0 0", "logPart 0 0",
            "isBalanced", "lacks", "enough 0", "count 6", "load"};
        for (String call : calls) {
            x.make(call).due("count 6", 1);
        }
        x.due("undo", 0).due("pool", 600).due("restoreSnapshot 1", 0).due("pool", 530);
    }

    static void promise36_theLogAndTheDayAreTakenBackToo() {
        Run x = Run.of("account 0;income 0 1 1 1").make("run 20", "run 57").due("logPart 0 1", 77);
        x.due("undo", 1).due("day", 20).due("count 7", 20).due("logPart 0 1", 20).due("logPart 19 1", 1)
            .due("logPart 20 1", Run.NO_VALUE);
    }

    static void promise37_whatFrom0To4() {
        Run.of("account 9;income 0 7 3 0").make("run 3")
            .refused("logPart 0 #", Run.ILLEGAL, -1, 5, Run.LEAST, Run.MOST).row("logPart 0", 0, 3, 0, 7, 0);
    }

    static void promise37_noValueIfThereIsNoSuchEntry() {
        Run.of("account 9;income 0 7 3 1").make("run 4")
            .refused("logPart # 0", Run.NO_VALUE, -1, 2, 39, 40, Run.LEAST, Run.MOST).due("logPart 1 1", 3);
        new Run().refused("logPart # 0", Run.NO_VALUE, -1, 0);
    }

    static void promise37_theExceptionComesBeforeNoValue() {
        new Run().refused("logPart 0 #", Run.ILLEGAL, -1, 5).refused("logPart -1 #", Run.ILLEGAL, -1, 5);
    }

    static void promise37_theLatest40AreKeptAndNotThe41st() {
        Run x = Run.of("account 0;income 0 1 1 1").make("run 29").due("logPart 28 1", 1)
            .due("logPart 29 1", Run.NO_VALUE).make("run 10").due("count 7", 40);
        x.due("logPart 39 1", 1).due("logPart 40 1", Run.NO_VALUE).make("run 1").due("logPart 0 1", 40)
            .due("logPart 39 1", 2).due("logPart 40 1", Run.NO_VALUE).due("count 7", 40);
        x.make("run 400").due("logPart 0 1", 440).due("logPart 39 1", 402);
    }

    static void promise37_anIncomeABillAFundAndAMonth() {
        Run.of("account 0;envelope 2 1 0;fund 90 30 0 0;income 0 60 30 0;bill 0 0 8 30 0").make("run 30")
            .row("logPart 0", 2, 30, 0, 90, 30).row("logPart 1", 1, 30, 0, 8, 8)
            .row("logPart 2", 3, 30, Run.NONE, 60, 0).row("logPart 3", 0, 30, 0, 60, 0);
    }

    static void promise37_whatRemainedUncoveredIs0OrMore() {
        String text = ";envelope 0 1 0;bill 0 0 9 2 0";
        Run.of("account 10" + text).make("run 2").due("logPart 0 4", 0);
        Run.of("account 9" + text).make("run 2").due("logPart 0 4", 0);
        Run.of("account 8" + text).make("run 2").due("logPart 0 4", 1);
        Run.of("account 10" + text).make("shift -1 0 10", "run 2").due("logPart 0 4", 0).due("envelope 0 0", 1);
    }

    static void promise37_aLackOfOldCountsAsUncoveredToo() {
        Run.of("account 0;envelope 0 1 0;bill 0 0 9 2 0").make("spend 0 0 4", "run 2").due("logPart 0 4", 13);
    }

    static void promise37_withTheNumbersThatTheyHadThen() {
        Run.of("account 9;envelope 0 1 0;bill 0 0 1 2 0;bill 0 0 2 3 0").make("run 2").due("logPart 0 2", 0)
            .make("dropBill 0", "run 1").due("logPart 0 2", 0).due("logPart 0 3", 2).due("logPart 1 3", 1)
            .due("logPart 1 2", 0);
        Run.of("account 9;envelope 0 1 0;bill 0 0 1 9 0;bill 0 0 2 2 0").make("run 2", "dropBill 0")
            .due("logPart 0 2", 1);
    }

    static void promise37_aPaidBillIsLoggedOnTheDayItWasPaid() {
        Run.of("account 9;envelope 0 1 0;bill 0 0 1 9 5").make("run 2", "pay 0").row("logPart 0", 1, 2, 0, 1, 0)
            .due("count 7", 1).make("run 11").due("count 7", 1).make("run 1").due("count 7", 2)
            .due("logPart 0 1", 14);
    }

    static void promise37_onlyIncomesBillsFundsAndMonthsAreLogged() {
        Run x = Run.of(FOUR + ";fund 9 40 0 0").make("allot", "spend 0 0 9", "shift 1 0 1", "give 0 1", "transfer 0 1 1",
            "deposit 0 1", "setMonthly 0 1", "setMode 0 1 1", "setTarget 0 1", "addBill 0 0 1 9 0", "postpone 0 1",
            "dropBill 0", "share 0 0 0 9 3", "settle 0 1 0 1", "cover 0", "saveSnapshot 0", "undo", "run 29");
        x.due("count 7", 0).make("run 1").due("count 7", 1);
    }

    public static void main(String[] args) {
        Cases.runAll(Edges31To37Test.class);
    }
}
