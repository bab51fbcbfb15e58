/** Promises 48 to 54 at their edges: covering, lacks, postponing, what is due, the best day and snapshots. */
final class Edges48To54Test {
    private static final String RICH = "account 900;account 100;envelope 50 2 10;envelope 20 0 0 in 0;fund 40 20 25 0;"
        + "fund 90 33 0 1;income 0 30 3 4;bill 0 1 5 2 6;bill 1 0 15 4 0;bill 0 0 7 50 400;people 3";

    /** The second of three bills is due no more. */
    private static Run rich() {
        return Run.of(RICH).make("run 7", "saveSnapshot 0", "allot", "share 0 0 0 9 7");
    }

    private static Run lacking(int deposit) {
        Run x = Run.of("account 0;envelope 0 1 0;envelope 0 1 0 in 0;envelope 0 1 0 in 1;envelope 0 1 0 in 0");
        return x.make("spend 2 0 9", "deposit 0 " + deposit);
    }

    static void promise48_noSuchEnvelope() {
        rich().refused("cover #", Run.OUT, -1, 2, 10, Run.LEAST, Run.MOST).due("cover 1", 20);
        new Run().refused("cover #", Run.OUT, 0);
    }

    static void promise48_nothingIsCoveredOfAnEnvelopeThatIsNotNegative() {
        Run.of("account 9;envelope 0 1 0;envelope 0 1 0 in 0").make("shift -1 0 4").due("cover 1", 0)
            .make("shift -1 1 1").due("cover 1", 1).due("envelope 0 0", 4).due("pool", 4);
    }

    static void promise48_fromTheNearestOnAndThenThePool() {
        lacking(9).make("shift -1 1 4", "shift -1 0 3").due("cover 2", 0).each("envelope # 0", 0, 0, 0).due("pool", 0);
        lacking(20).make("shift -1 1 9", "shift -1 0 5").due("cover 2", 0).each("envelope # 0", 5, 0, 0)
            .due("pool", 6);
        lacking(20).make("shift -1 1 8", "shift -1 0 5").due("cover 2", 0).each("envelope # 0", 4, 0, 0)
            .due("pool", 7);
        lacking(20).make("shift -1 1 4", "shift -1 0 5").due("cover 2", 0).each("envelope # 0", 0, 0, 0)
            .due("pool", 11);
        lacking(20).make("shift -1 1 3", "shift -1 0 5").due("cover 2", 0).each("envelope # 0", 0, 0, 0)
            .due("pool", 11);
    }

    static void promise48_whatCannotBeCoveredRemains() {
        lacking(8).due("cover 2", -1).due("pool", 0).due("cover 2", -1);
        lacking(9).due("cover 2", 0).due("pool", 0);
        lacking(10).due("cover 2", 0).due("pool", 1);
    }

    static void promise48_othersGiveNothing() {
        lacking(20).make("shift -1 3 20").due("cover 2", -9).due("envelope 3 0", 20);
        Run.of("account 0;envelope 0 1 0;envelope 0 1 0 in 0").make("spend 0 0 9", "deposit 0 9", "shift -1 1 9")
            .due("cover 0", -9).due("envelope 1 0", 9);
    }

    static void promise48_itIsNotSpent() {
        lacking(20).make("cover 2").due("envelope 2 5", 9).due("account 0", 11);
    }

    static void promise48_anActionThoughItChangesNothing() {
        rich().undone("cover 0").make("cover 0").due("count 6", 4);
        lacking(20).undone("cover 2");
    }

    static void promise49_0WithoutALack() {
        new Run().due("lacks", 0);
        Run.of("account 9;envelope 0 1 0;envelope 0 1 0;fund 5 9 9 0").make("shift -1 0 5", "give 0 4").due("lacks", 0);
    }

    static void promise49_ofEnvelopesAndFundsTogether() {
        Run.of("account 0;envelope 0 1 0;envelope 0 1 0;fund 5 2 9 0;fund 6 2 9 0").make("spend 0 0 1")
            .due("lacks", 1).make("spend 1 0 3").due("lacks", 4).make("run 2").due("lacks", 15);
    }

    static void promise49_ofTenEnvelopesAndSixFunds() {
        Run x = Run.of("account 0;" + "envelope 0 1 0;".repeat(10) + "fund 5 1 9 0;".repeat(5) + "fund 5 1 9 0");
        x.due("lacks", 0).make("spend 0 0 1", "spend 9 0 100", "run 1").due("lacks", 131);
    }

    static void promise49_whatWasLoadedBeforeDoesNotCount() {
        Run x = Run.of("account 0;envelope 0 1 0;envelope 0 1 0;fund 5 1 9 0;fund 5 1 9 0");
        x.make("spend 0 0 1", "spend 1 0 2", "run 1").due("lacks", 13);
        x.type("account 0;envelope 0 1 0;fund 5 1 9 0").make("load").due("lacks", 0).due("isBalanced", true);
        x.type("people 1").make("load").due("lacks", 0);
    }

    static void promise49_whatOthersHaveDoesNotCount() {
        Run.of("account 0;envelope 0 1 0;envelope 0 1 0;fund 5 2 9 0;fund 6 9 9 0").make("spend 0 0 1", "run 2",
            "deposit 0 99", "shift -1 1 20", "give 1 30").due("pool", 49).due("lacks", 6);
    }

    static void promise49_aNegativePoolOrAFundThatHasEndedLacksNothing() {
        Run.of("account 0;fund 5 2 0 0").make("run 2").due("pool", -5).due("lacks", 0);
    }

    static void promise49_nothingChanges() {
        rich().unchanged("lacks", 0);
        lacking(4).unchanged("lacks", 9);
    }

    static void promise50_noSuchBill() {
        rich().refused("postpone # 1", Run.OUT, -1, 3, 11, 12, Run.LEAST, Run.MOST).due("postpone 2 1", 51);
        new Run().refused("postpone # 1", Run.OUT, 0);
    }

    static void promise50_daysFrom1To60() {
        rich().refused("postpone 0 #", Run.ILLEGAL, 0, 61, -1, Run.LEAST, Run.MOST).due("postpone 0 1", 9)
            .due("postpone 0 60", 69).due("bill 0 3", 69);
    }

    static void promise50_noSuchBillIsNamedFirst() {
        rich().refused("postpone # 0", Run.OUT, -1, 3).refused("postpone # 61", Run.OUT, 3);
    }

    static void promise50_goneIfItIsDueNoMoreBehindTheExceptions() {
        rich().refused("postpone 1 #", Run.GONE, 1, 60).refused("postpone 1 #", Run.ILLEGAL, 0, 61);
        Run.of("account 9;envelope 0 1 0;bill 0 0 5 3 0").make("run 2").due("postpone 0 1", 4).make("run 1")
            .due("postpone 0 1", 5).make("run 2").due("account 0", 4).refused("postpone 0 #", Run.GONE, 1);
    }

    static void promise50_allItsNextDaysWithIt() {
        Run.of("account 9;envelope 0 1 0;bill 0 0 1 5 10").due("postpone 0 3", 8).make("run 7").due("account 0", 9)
            .make("run 1").due("account 0", 8).due("bill 0 3", 18).make("run 9").due("account 0", 8).make("run 1")
            .due("account 0", 7).due("bill 0 4", 10);
    }

    static void promise50_alsoBeyondTheDay20000() {
        Run.of("account 9;envelope 0 1 0;bill 0 0 1 20000 0").due("postpone 0 60", 20060).due("postpone 0 1", 20061);
    }

    static void promise50_anActionThatCanBeTakenBack() {
        rich().undone("postpone 0 1").undone("postpone 2 60");
    }

    static void promise51_noneIfThereIsNoSuchIndex() {
        rich().refused("dueNext #", Run.NONE, -1, 4, 17, 18, Run.LEAST, Run.MOST).due("dueNext 3", 2);
        new Run().refused("dueNext #", Run.NONE, -1, 0, 1);
    }

    static void promise51_byTheirNextDays() {
        Run.of("account 0;envelope 0 1 0;fund 6 9 25 0;fund 7 4 0 0;bill 0 0 1 8 3;bill 0 0 1 3 0;bill 0 0 1 20000 0")
            .each("dueNext #", 1, 101, 0, 100, 2, Run.NONE);
    }

    static void promise51_ofLikeOnesBillsFirst() {
        Run.of("account 0;envelope 0 1 0;fund 6 9 25 0;bill 0 0 1 9 3").each("dueNext #", 0, 100, Run.NONE);
        Run.of("account 0;envelope 0 1 0;fund 6 8 25 0;bill 0 0 1 9 3").each("dueNext #", 100, 0, Run.NONE);
    }

    static void promise51_thenByTheirNumbers() {
        Run.of("account 0;envelope 0 1 0;fund 6 9 25 0;fund 6 9 25 0;bill 0 0 1 9 3;bill 0 0 1 9 3")
            .each("dueNext #", 0, 1, 100, 101, Run.NONE);
        Run.of("account 0;envelope 0 1 0;" + "fund 1 9 1 0;".repeat(6) + "bill 0 0 1 9 1;".repeat(11)
            + "bill 0 0 1 9 1").each("dueNext #", 0, 1, 2, 3, 4, 5, 6, 7, 8, 9, 10, 11, 100, 101, 102, 103, 104, 105,
            Run.NONE);
    }

    static void promise51_eachOnceThoughItIsDueAgain() {
        Run.of("account 0;envelope 0 1 0;bill 0 0 1 1 1").each("dueNext #", 0, Run.NONE).make("run 1")
            .each("dueNext #", 0, Run.NONE);
    }

    static void promise51_whatIsDueNoMoreOrHasEndedIsLeftOut() {
        Run.of("account 0;envelope 0 1 0;fund 6 3 0 0;bill 0 0 1 3 0;bill 0 0 1 4 0;fund 6 4 0 0").make("run 2")
            .each("dueNext #", 0, 100, 1, 101, Run.NONE).make("run 1").each("dueNext #", 1, 101, Run.NONE)
            .make("run 1").each("dueNext #", Run.NONE);
    }

    static void promise51_nextDaysBeyond20000() {
        Run.of("account 0;envelope 0 1 0;fund 6 20000 0 0;bill 0 0 1 20000 0;bill 0 0 1 19999 1").make("postpone 0 1")
            .each("dueNext #", 1, 100, 0, Run.NONE);
    }

    static void promise51_nothingChanges() {
        rich().unchanged("dueNext 0", 0).unchanged("dueNext 1", 100);
    }

    static void promise52_amountFrom1To1000000() {
        rich().refused("bestDay # 9", Run.ILLEGAL, 0, -1, 1000001, Run.LEAST, Run.MOST).due("bestDay 1 9", 11)
            .due("bestDay 1000000 1", 8);
    }

    static void promise52_daysFrom1To2000() {
        rich().refused("bestDay 9 #", Run.ILLEGAL, 0, -1, 2001, Run.LEAST, Run.MOST).due("bestDay 9 1", 8);
        Run.of("account 0;income 0 9 2000 0").due("bestDay 9 1", 1).due("bestDay 9 1999", 1)
            .due("bestDay 9 2000", 2000);
    }

    static void promise52_todayIsNoneOfTheDaysButCountsForTheLeastSum() {
        Run.of("account 9").due("bestDay 5 1", 1).make("run 3").due("bestDay 5 1", 4).due("bestDay 5 9", 4);
        Run.of("account 1;income 0 9 1 0;income 0 9 3 0").due("bestDay 9 9", 1).due("bestDay 10 9", 3);
    }

    static void promise52_theFirstOneOfSeveral() {
        Run.of("account 1;income 0 9 2 0;income 0 9 4 0").due("bestDay 9 9", 2).due("bestDay 10 9", 4)
            .due("bestDay 19 9", 4);
        Run.of("account 9").due("bestDay 9 2000", 1);
    }

    static void promise52_theLastOfTheDays() {
        Run.of("account 0;income 0 9 5 0").due("bestDay 9 4", 1).due("bestDay 9 5", 5).due("bestDay 9 6", 5);
    }

    static void promise52_theDaysBehindItCountToo() {
        Run.of("account 10;envelope 0 1 0;bill 0 0 9 3 0;income 0 50 4 0").due("bestDay 3 2", 1).due("bestDay 3 3", 1)
            .due("bestDay 3 6", 4);
    }

    static void promise52_behindTheDayNotWithinIt() {
        Run.of("account 0;envelope 0 1 0;income 0 9 2 0;bill 0 0 9 2 0;income 0 9 3 0").due("bestDay 9 9", 3);
    }

    static void promise52_nothingChangesAndTheDay20000DoesNotMatter() {
        rich().unchanged("bestDay 9 2000", 11);
        Run.of("account 0;income 0 9 400 400").repeat(50, "run 400").due("bestDay 500 2000", 22000);
    }

    static void promise53_slot0Or1() {
        rich().refused("saveSnapshot #", Run.ILLEGAL, -1, 2, Run.LEAST, Run.MOST).due("saveSnapshot 0", 7)
            .due("saveSnapshot 1", 7);
        new Run().due("saveSnapshot 0", 0).due("saveSnapshot 1", 0).refused("saveSnapshot #", Run.ILLEGAL, 2);
    }

    static void promise53_noActionAndNothingElseChanges() {
        Run x = rich().type("peop");
        Run without = x.twin();
        x.due("saveSnapshot 1", 7).due("count 6", 3).alike(without, Later.Part.SNAPSHOTS);
        x.differs(without, Later.Part.SNAPSHOTS);
    }

    static void promise53_theSlotsAreTwo() {
        Run x = Run.of("account 0").make("saveSnapshot 0", "run 3", "saveSnapshot 1", "run 4");
        x.due("restoreSnapshot 0", 0).due("restoreSnapshot 1", 3).due("restoreSnapshot 0", 0);
    }

    static void promise53_aLaterOneReplacesTheFormerOne() {
        Run.of("account 0").make("saveSnapshot 0", "run 3", "saveSnapshot 0", "run 4").due("restoreSnapshot 0", 3)
            .due("restoreSnapshot 1", Run.NONE);
    }

    static void promise53_itIsACopyThatLaterActionsDoNotChange() {
        Run x = rich().make("saveSnapshot 1");
        Run then = x.twin().make("restoreSnapshot 1");
        x.make("run 60", "allot", "spend 0 0 9", "dropBill 0", "setMonthly 0 9", "setTarget 0 9", "share 1 -1 0 9 7",
            "undo", "deposit 1 7", "addBill 1 1 3 400 0", "restoreSnapshot 1").alike(then);
    }

    static void promise53_everythingBehindAnActionOfEachKind() {
        Run x = Run.of(RICH).make("run 47", "allot", "spend 1 1 33", "shift -1 0 7", "give 0 9", "transfer 0 1 5",
            "deposit 1 8", "setMonthly 1 3", "setMode 0 1 77", "setTarget 0 6", "addBill 1 1 4 300 5", "dropBill 0",
            "pay 1", "share 0 1 1 100 7", "settle 1 0 0 60", "cover 1", "postpone 1 9", "saveSnapshot 1");
        String saved = Later.told(x.twin(), Later.Part.LOG) + Later.told(x.twin(), Later.Part.FORECASTS);
        Run then = x.twin().make("restoreSnapshot 1");
        Cases.right((Later.told(then.twin(), Later.Part.LOG) + Later.told(then.twin(), Later.Part.FORECASTS))
            .equals(saved), "the snapshot is not all of it");
        x.type("account 1;account 2;account 3;envelope 9 0 9;people 6").make("load", "run 30", "restoreSnapshot 1");
        x.due("count 6", 0).alike(then);
    }

    static void promise53_alsoTheLastOfEachKind() {
        Run x = Run.of(Edges31To37Test.GREATEST).make("settle 5 4 0 9", "give 5 1", "spend 9 3 1", "saveSnapshot 0");
        Run then = x.twin().make("restoreSnapshot 0");
        x.make("settle 5 4 0 9", "give 5 1", "spend 9 3 1", "run 3", "dropBill 11", "restoreSnapshot 0").alike(then);
        then.due("net 5", 9).due("fund 5 0", 1).due("envelope 9 5", 1).due("account 3", 12).due("bill 11 2", 7)
            .due("income 3 2", 3);
    }

    static void promise53_withoutTheBufferAndTheResultsOfTheLatestLoad() {
        Run x = rich().make("saveSnapshot 1").type("people 1;x").make("load").type("peop");
        x.make("restoreSnapshot 1").due("loadError", 1).due("loadStatement", 1).due("append 0", 4).type("le 5")
            .due("load", 0).due("count 5", 5);
    }

    static void promise53_withoutTheSnapshots() {
        Run x = Run.of("account 0").make("saveSnapshot 0", "run 3", "saveSnapshot 1", "run 4", "saveSnapshot 0");
        x.due("restoreSnapshot 0", 7).due("restoreSnapshot 1", 3).due("restoreSnapshot 0", 7);
    }

    static void promise53_withTheLog() {
        Run x = Run.of("account 0;income 0 1 1 1").make("run 50", "saveSnapshot 0", "run 60", "restoreSnapshot 0");
        x.due("count 7", 40).due("logPart 0 1", 50).due("logPart 1 1", 49);
    }

    static void promise54_slot0Or1() {
        rich().refused("restoreSnapshot #", Run.ILLEGAL, -1, 2, Run.LEAST, Run.MOST).due("restoreSnapshot 0", 7);
        new Run().refused("restoreSnapshot #", Run.ILLEGAL, -1, 2);
    }

    static void promise54_noneIfNothingWasSavedThere() {
        rich().unchanged("restoreSnapshot 1", Run.NONE).due("restoreSnapshot 0", 7);
        new Run().unchanged("restoreSnapshot 0", Run.NONE).make("saveSnapshot 1")
            .unchanged("restoreSnapshot 0", Run.NONE).due("restoreSnapshot 1", 0);
    }

    static void promise54_nothingCanBeTakenBackThen() {
        rich().due("restoreSnapshot 0", 7).due("count 6", 0).unchanged("undo", Run.NONE).make("allot")
            .due("count 6", 1).due("undo", 0).due("undo", Run.NONE);
        Run.of("account 0").repeat(8, "deposit 0 1").make("saveSnapshot 0", "restoreSnapshot 0")
            .unchanged("undo", Run.NONE).due("account 0", 8);
    }

    static void promise54_theSnapshotStays() {
        Run x = rich().make("restoreSnapshot 0");
        Run once = x.twin();
        x.make("run 40", "allot", "restoreSnapshot 0").alike(once);
    }

    static void promise54_aSnapshotOfANewObject() {
        Run x = new Run().make("saveSnapshot 0").type(RICH).make("load", "run 40", "restoreSnapshot 0");
        x.alike(new Run().make("saveSnapshot 0"));
    }

    static void promise54_alsoIfLessOrMoreWasLoadedThen() {
        for (String text : new String[] {"people 1", "account 1;" + "envelope 7 0 7;".repeat(9) + "envelope 7 0 7"}) {
            Run x = rich();
            Run then = x.twin().make("restoreSnapshot 0");
            x.type(text).make("load", "run 3", "restoreSnapshot 0").alike(then);
        }
    }

    public static void main(String[] args) {
        Cases.runAll(Edges48To54Test.class);
    }
}
