/** Promises 7 to 17 at their edges: what a budget tells of itself. */
final class Edges07To17Test {
    /** Envelopes 1 and 4 lie in 0, 3 in 1, 5 in 2. */
    private static final String NESTED = "account 5000;account 300;envelope 100 1 0;envelope 200 1 0 in 0;"
        + "envelope 300 1 0;envelope 400 1 0 in 1;envelope 500 1 0 in 0;envelope 600 1 0 in 2";

    private static final String TEN_NESTED = nested(10);

    private static String nested(int envelopes) {
        StringBuilder text = new StringBuilder("account 5000;envelope 1 1 0");
        for (int i = 1; i < envelopes; i++) {
            text.append(";envelope ").append(1 << i).append(" 1 0 in ").append(i - 1);
        }
        return text.toString();
    }

    static void promise07_from0To20000() {
        Run.of("account 0").due("day", 0).make("run 1").due("day", 1).repeat(49, "run 400").make("run 398")
            .due("day", 19999).make("run 1").due("day", 20000).refused("run #", Run.FULL, 1).due("day", 20000);
    }

    static void promise08_withoutTheMoneyInEnvelopesAndFunds() {
        Run.of("account 60;account 40;envelope 0 1 0;fund 50 40 0 0").due("pool", 100).make("shift -1 0 30", "give 0 70")
            .due("pool", 0).make("deposit 1 5").due("pool", 5);
    }

    static void promise08_canBeNegative() {
        Run.of("account 10;fund 10 2 0 0;fund 1 3 0 0").make("run 2").due("pool", 0).make("run 1").due("pool", -1);
    }

    static void promise08_canLieBeyondTheRangeOfInt() {
        Run x = Run.of("account 0;" + "income 0 1000000 1 1;".repeat(3) + "income 0 1000000 1 1");
        x.repeat(2, "run 400").due("pool", 3200000000L).due("account 0", 3200000000L);
    }

    static void promise09_noSuchAccount() {
        Run.of("account 5;account 6").due("account 0", 5).due("account 1", 6)
            .refused("account #", Run.OUT, -1, 2, 3, 4, Run.LEAST, Run.MOST);
        Run.of("account 5;account 6;account 7;account 8").due("account 3", 8).refused("account #", Run.OUT, 4);
        new Run().refused("account #", Run.OUT, 0, -1);
    }

    static void promise09_canBeNegative() {
        Run.of("account 5;envelope 0 1 0").make("spend 0 0 5").due("account 0", 0).make("spend 0 0 1")
            .due("account 0", -1);
    }

    static void promise09_canLieBeyondTheRangeOfInt() {
        Run x = Run.of("account 0;envelope 0 1 0;" + "bill 0 0 1000000 1 1;".repeat(11) + "bill 0 0 1000000 1 1");
        x.make("run 400").due("account 0", -4800000000L).due("envelope 0 0", -4800000000L)
            .due("envelope 0 5", 4800000000L).due("lacks", 4800000000L).due("tree 0", -4800000000L);
    }

    static void promise10_noSuchEnvelope() {
        Run.of(NESTED).due("envelope 0 1", 100).due("envelope 5 1", 600)
            .refused("envelope # 0", Run.OUT, -1, 6, 9, 10, Run.LEAST, Run.MOST);
        Run.of(TEN_NESTED).due("envelope 9 1", 512).refused("envelope # 0", Run.OUT, 10);
        new Run().refused("envelope # 0", Run.OUT, 0, -1);
    }

    static void promise10_whatFrom0To6() {
        Run.of(NESTED).make("allot", "spend 3 0 30").row("envelope 3", 370, 400, 1, 0, 1, 30, 2)
            .refused("envelope 3 #", Run.ILLEGAL, -1, 7, Run.LEAST, Run.MOST);
    }

    static void promise10_noSuchEnvelopeIsNamedFirst() {
        Run.of(NESTED).refused("envelope # 7", Run.OUT, -1, 6).refused("envelope # -1", Run.OUT, -1, 6);
    }

    static void promise10_noneWithoutAnEnvelopeInWhichItLies() {
        Run.of(NESTED).each("envelope # 4", Run.NONE, 0, Run.NONE, 1, 0, 2);
    }

    static void promise10_liesInNoneUpToNine() {
        Run.of(TEN_NESTED).each("envelope # 6", 0, 1, 2, 3, 4, 5, 6, 7, 8, 9);
        Run.of(NESTED).each("envelope # 6", 0, 1, 0, 2, 1, 1);
    }

    static void promise10_spentByItselfButNotWhatItGives() {
        Run x = Run.of("account 500;envelope 100 1 0;envelope 50 1 0 in 0;bill 1 0 20 3 0;bill 1 0 7 9 0;people 3");
        x.make("allot", "run 3").due("envelope 1 5", 20).make("pay 1").due("envelope 1 5", 27)
            .make("share 0 0 1 10 7").due("envelope 1 5", 31).make("share 1 -1 1 10 6").due("envelope 1 5", 31)
            .make("share 1 -1 1 10 1").due("envelope 1 5", 41).make("spend 1 0 80").due("envelope 1 5", 121)
            .make("shift -1 1 5", "shift 1 0 5", "cover 1").due("envelope 1 5", 121).due("envelope 0 0", 34)
            .due("envelope 0 5", 0);
    }

    static void promise10_spentSinceLoad() {
        Run.of("account 9;envelope 0 1 0").make("spend 0 0 4").type("account 9;envelope 0 1 0").make("load")
            .due("envelope 0 5", 0).make("spend 0 0 1").due("envelope 0 5", 1);
    }

    static void promise10_theRolloverIsNotSpent() {
        Run.of("account 9;envelope 5 0 0").make("allot", "run 30").due("envelope 0 5", 0);
    }

    static void promise11_noSuchEnvelope() {
        Run.of(NESTED).make("allot").due("tree 0", 1200).due("tree 5", 600)
            .refused("tree #", Run.OUT, -1, 6, 10, Run.LEAST, Run.MOST);
        new Run().refused("tree #", Run.OUT, 0);
    }

    static void promise11_itselfAndAllThatLieInItAlsoThroughOthers() {
        Run.of(NESTED).make("allot").each("tree #", 1200, 600, 900, 400, 500, 600);
        Run.of(TEN_NESTED).make("allot")
            .each("tree #", 1023, 1022, 1020, 1016, 1008, 992, 960, 896, 768, 512);
    }

    static void promise11_negativeBalancesCountToo() {
        Run.of("account 0;envelope 0 1 0;envelope 0 1 0 in 0").make("spend 1 0 5").due("tree 0", -5)
            .make("deposit 0 9", "shift -1 0 9").due("tree 0", 4).due("tree 1", -5);
    }

    static void promise12_noSuchEnvelope() {
        Run.of(NESTED).due("inside 0", 26).due("inside 5", 0)
            .refused("inside #", Run.OUT, -1, 6, 10, Run.LEAST, Run.MOST);
        new Run().refused("inside #", Run.OUT, 0);
    }

    static void promise12_noneLiesInIt() {
        Run.of(NESTED).each("inside #", 2 + 8 + 16, 8, 32, 0, 0, 0);
    }

    static void promise12_allTheOthersLieInIt() {
        Run.of(TEN_NESTED).each("inside #", 1022, 1020, 1016, 1008, 992, 960, 896, 768, 512, 0);
        Run.of("envelope 0 1 0;" + "envelope 0 1 0 in 0;".repeat(8) + "envelope 0 1 0 in 0").due("inside 0", 1022)
            .due("inside 1", 0);
    }

    static void promise13_noSuchFund() {
        Run.of("account 5;fund 7 1 0 0;fund 8 1 0 0").due("fund 0 1", 7).due("fund 1 1", 8)
            .refused("fund # 0", Run.OUT, -1, 2, 5, 6, Run.LEAST, Run.MOST);
        Run.of("account 5;" + "fund 7 1 0 0;".repeat(5) + "fund 8 1 0 0").due("fund 5 1", 8)
            .refused("fund # 0", Run.OUT, 6);
        new Run().refused("fund # 0", Run.OUT, 0);
    }

    static void promise13_whatFrom0To5() {
        Run.of("account 5;account 9;fund 6 10 15 1").make("give 0 3").row("fund 0", 3, 6, 10, 15, 1, 0)
            .refused("fund 0 #", Run.ILLEGAL, -1, 6, Run.LEAST, Run.MOST);
    }

    static void promise13_noSuchFundIsNamedFirst() {
        Run.of("account 5;fund 7 1 0 0").refused("fund # 6", Run.OUT, -1, 1).refused("fund # -1", Run.OUT, 1);
    }

    static void promise13_noneIfItHasEnded() {
        Run.of("account 500;fund 70 12 0 0").make("run 11").due("fund 0 2", 12).due("fund 0 5", 0).make("run 1")
            .row("fund 0", 0, 70, Run.NONE, 0, 0, 1).make("run 400").due("fund 0 5", 1);
    }

    static void promise13_howOftenItPaid() {
        Run.of("account 500;fund 6 10 15 0").make("run 9").due("fund 0 5", 0).make("run 1").due("fund 0 5", 1)
            .due("fund 0 2", 25).make("run 14").due("fund 0 5", 1).make("run 1").due("fund 0 5", 2)
            .due("fund 0 2", 40);
    }

    static void promise14_noSuchIncome() {
        Run.of("account 5;income 0 7 1 0;income 0 8 1 0").due("income 0 1", 7).due("income 1 1", 8)
            .refused("income # 0", Run.OUT, -1, 2, 3, 4, Run.LEAST, Run.MOST);
        Run.of("account 5;" + "income 0 7 1 0;".repeat(3) + "income 0 8 1 0").due("income 3 1", 8)
            .refused("income # 0", Run.OUT, 4);
        new Run().refused("income # 0", Run.OUT, 0);
    }

    static void promise14_whatFrom0To3() {
        Run.of("account 5;account 6;income 1 7 3 4").row("income 0", 1, 7, 3, 4)
            .refused("income 0 #", Run.ILLEGAL, -1, 4, Run.LEAST, Run.MOST);
    }

    static void promise14_noSuchIncomeIsNamedFirst() {
        Run.of("account 5;income 0 7 1 0").refused("income # 4", Run.OUT, -1, 1).refused("income # -1", Run.OUT, 1);
    }

    static void promise14_noneIfItComesNoMore() {
        Run.of("account 5;income 0 7 3 0;income 0 8 3 1").make("run 2").each("income # 2", 3, 3).make("run 1")
            .each("income # 2", Run.NONE, 4).make("run 1").each("income # 2", Run.NONE, 5).due("account 0", 28);
    }

    static void promise15_noSuchBill() {
        String two = "account 5;envelope 0 1 0;bill 0 0 7 1 0;bill 0 0 8 1 0";
        Run.of(two).due("bill 0 2", 7).due("bill 1 2", 8)
            .refused("bill # 0", Run.OUT, -1, 2, 11, 12, Run.LEAST, Run.MOST);
        Run.of(two + ";bill 0 0 9 1 0".repeat(10)).due("bill 11 2", 9).refused("bill # 0", Run.OUT, 12);
        new Run().refused("bill # 0", Run.OUT, 0);
    }

    static void promise15_whatFrom0To4() {
        Run.of("account 5;account 6;envelope 0 1 0;envelope 0 1 0;bill 1 0 7 3 4").row("bill 0", 1, 0, 7, 3, 4)
            .refused("bill 0 #", Run.ILLEGAL, -1, 5, Run.LEAST, Run.MOST);
    }

    static void promise15_noSuchBillIsNamedFirst() {
        Run.of("account 5;envelope 0 1 0;bill 0 0 7 1 0").refused("bill # 5", Run.OUT, -1, 1)
            .refused("bill # -1", Run.OUT, 1);
    }

    static void promise15_noneIfItIsDueNoMore() {
        Run.of("account 5;envelope 0 1 0;bill 0 0 7 3 0;bill 0 0 8 3 1").make("run 2").each("bill # 3", 3, 3)
            .make("run 1").each("bill # 3", Run.NONE, 4).make("run 1").each("bill # 3", Run.NONE, 5)
            .due("account 0", -18);
    }

    static void promise16_noSuchFund() {
        Run.of("account 5;fund 7 1 0 0;fund 8 1 0 0").each("need #", 7, 8)
            .refused("need #", Run.OUT, -1, 2, 6, Run.LEAST, Run.MOST);
        new Run().refused("need #", Run.OUT, 0);
    }

    static void promise16_0IfItHasEnded() {
        Run.of("account 5;fund 7 2 0 0;fund 7 2 1 0").make("run 1").each("need #", 7, 7).make("run 1")
            .each("need #", 0, 14);
    }

    static void promise16_0IfItHasTargetOrMore() {
        Run.of("account 200;fund 100 20 0 0").due("need 0", 100).make("give 0 99").due("need 0", 1)
            .make("give 0 1").due("need 0", 0).make("give 0 1").due("need 0", 0);
    }

    static void promise16_aLackIsNeededToo() {
        Run.of("account 0;fund 90 5 60 0").make("run 5").due("fund 0 0", -90).due("fund 0 2", 65).due("need 0", 90);
    }

    static void promise16_theMonthsLeftAreRoundedUpAndAtLeastOne() {
        Run x = Run.of("account 0;fund 100 1 0 0;fund 100 29 0 0;fund 100 30 0 0;fund 100 31 0 0;fund 100 60 0 0;"
            + "fund 100 61 0 0");
        x.each("need #", 100, 100, 100, 50, 50, 34);
        Run.of("account 0;fund 667 20000 0 0;fund 666 20000 0 0;fund 668 20000 0 0").each("need #", 1, 1, 2);
    }

    static void promise16_theMonthsLeftAreReckonedFromToday() {
        Run.of("account 0;fund 100 62 0 0").due("need 0", 34).make("run 1").due("need 0", 34).make("run 1")
            .due("need 0", 50).make("run 29").due("need 0", 50).make("run 1").due("need 0", 100).make("run 29")
            .due("need 0", 100);
    }

    static void promise16_dividedAndRoundedUp() {
        Run x = Run.of("account 200;fund 99 61 0 0").due("need 0", 33);
        x.make("give 0 1").due("need 0", 33).make("give 0 1").due("need 0", 33).make("give 0 1").due("need 0", 32)
            .make("give 0 95").due("need 0", 1).make("give 0 1").due("need 0", 0);
    }

    static void promise17_trueWithNothing() {
        new Run().due("isBalanced", true);
    }

    static void promise17_trueBehindAllThatChangesASum() {
        Run x = Run.of("account 100;account 30;envelope 40 0 0;envelope 90 2 10 in 0;fund 500 31 20 1;fund 90 33 0 0;"
            + "income 0 33 5 9;bill 1 1 44 7 11;people 3");
        String[] calls = {"allot", "share 0 1 1 200 5", "share 2 -1 0 100 7", "share 1 -1 0 10 6", "settle 1 0 1 30",
            "settle 0 2 0 300", "settle 2 1 0 4", "spend 1 0 500", "cover 1", "deposit 0 900", "cover 1",
            "shift -1 0 9", "give 0 8", "give 0 -3", "transfer 0 1 77", "pay 0", "run 31", "run 2", "undo", "run 400"};
        for (String call : calls) {
            x.make(call).due("isBalanced", true);
        }
    }

    static void promise17_allOfEachKindCount() {
        Run.of(Edges31To37Test.GREATEST).make("run 1", "shift -1 9 2", "shift -1 3 2", "give 5 3", "settle 5 0 3 8",
            "settle 0 4 2 5").due("isBalanced", true).make("run 50").due("isBalanced", true);
        Run.of("account 9;envelope 1 1 0;envelope 2 1 0;fund 9 40 0 0;fund 9 50 9 0;fund 9 60 9 0").make("allot")
            .due("isBalanced", true);
        Run.of("account 9;account 8;account 7;envelope 1 1 0;fund 9 20 0 0").make("allot", "spend 0 2 5")
            .due("isBalanced", true);
    }

    public static void main(String[] args) {
        Cases.runAll(Edges07To17Test.class);
    }
}
