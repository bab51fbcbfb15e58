/** Promises 1 to 6 at their edges, with section 1: a new object, the buffer, descriptions and their errors. */
final class Edges01To06Test {
    private static final String ACCOUNT = "account 5;";
    private static final String BOTH = "account 5;envelope 0 0 0;";
    private static final long EIGHT_SPACES = 0x2020202020202020L;

    /** Has something of each kind, was used, and can be taken back. */
    private static Run used() {
        return Run.of("account 100;account 20;envelope 5 1 0;envelope 7 0 3 in 0;fund 50 40 20 1;income 0 9 3 4;"
            + "bill 1 0 6 2 5;people 3").make("run 5", "share 1 -1 0 9 7", "saveSnapshot 1", "give 0 8");
    }

    private static void fine(String text, int envelopes) {
        new Run().type(text).due("load", envelopes).due("loadError", 0).due("loadStatement", Run.NONE);
    }

    private static void error(String text, int kind, int position, int statement) {
        new Run().type(text).due("load", -100 - position).due("loadError", kind).due("loadStatement", statement);
    }

    /** A number at the end of a text: the ends of its range, what lies beyond them, and what would wrap around. */
    private static void range(String before, String behind, long least, long most, int statement) {
        for (long value : new long[] {least, most}) {
            Run x = new Run().type(before + value + behind);
            x.due("loadError", 0).make("load");
            x.due("loadError", 0).due("loadStatement", Run.NONE);
        }
        for (long value : new long[] {least - 1, most + 1, (1L << 31) + most, (1L << 32) + most, Long.MAX_VALUE}) {
            if (value >= 0) {
                error(before + value + behind, 2, before.length(), statement);
            }
        }
        error(before + "18446744073709551616" + behind, 2, before.length(), statement);
        error(before + "-1" + behind, 1, before.length(), statement);
    }

    static void promise01_newObjectHasNoneOfTheseAndOnePerson() {
        new Run().each("count #", 0, 0, 0, 0, 0, 1, 0, 0).due("day", 0).due("pool", 0).due("net 0", 0)
            .due("net 1", Run.OUT).due("account 0", Run.OUT).due("envelope 0 0", Run.OUT).due("fund 0 0", Run.OUT)
            .due("income 0 0", Run.OUT).due("bill 0 0", Run.OUT);
    }

    static void promise01_newObjectHasAnEmptyBuffer() {
        new Run().due("append 0", 0).due("append 32", 1);
        new Run().due("load", -100);
    }

    static void promise01_newObjectHasNoSnapshots() {
        new Run().unchanged("restoreSnapshot 0", Run.NONE).unchanged("restoreSnapshot 1", Run.NONE);
    }

    static void promise01_newObjectHasNothingToTakeBack() {
        new Run().unchanged("undo", Run.NONE);
    }

    static void promise01_newObjectAnswersThoughItHoldsNothing() {
        new Run().due("isBalanced", true).due("lacks", 0).due("transfers", 0).due("dueNext 0", Run.NONE)
            .due("transferPart 0 0", Run.NO_VALUE).due("logPart 0 0", Run.NO_VALUE).due("tightest 2000 0", 0)
            .due("tightest 2000 1", 0).due("poolLow 2000", 0).due("safe 2000", 0).due("billsWithin 2000", 0)
            .due("bestDay 1 2000", 1).due("allot", 0).due("run 30", 30).due("count 7", 1).due("undo", 1);
    }

    static void promise01_the512thCallIsAnsweredYet() {
        Run x = Run.of("account 0");
        x.repeat(511 - x.callsMade(), "deposit 0 1");
        x.due("account 0", 507);
    }

    static void promise02_bytesThatAre0AreLeftOut() {
        new Run().due("append 0", 0).due("append " + 0x70L, 1).due("append " + 0x6500006f00700000L, 4)
            .due("append " + 0x6c00000000000065L, 6).due("append " + 0x2000000000003400L, 8).due("load", 0)
            .due("count 5", 4);
    }

    static void promise02_eachOfTheEightPlacesHoldsAByte() {
        Run x = new Run();
        for (int place = 0; place < 8; place++) {
            x.due("append " + (0x20L << 8 * place), place + 1);
        }
        x.due("append " + EIGHT_SPACES, 16);
    }

    static void promise02_theMostSignificantByteComesFirst() {
        new Run().make("append " + Checks.packed("people 6")).due("load", 0).due("count 5", 6);
        new Run().make("append " + Checks.packed("6 elpoep")).due("load", -100);
    }

    static void promise02_bytesFrom128To255AreKept() {
        new Run().due("append " + (0x80L << 56 | 0xff), 2).due("append -1", 10).due("load", -100);
        new Run().type("people 6").due("append 255", 9).due("load", -108).due("loadError", 1);
        new Run().type("people 6").due("append 128", 9).due("load", -108).due("loadError", 1);
    }

    static void promise02_900BytesButNot901() {
        Run x = new Run().repeat(112, "append " + EIGHT_SPACES);
        x.refused("append " + 0x2020202020L, Run.FULL, 0);
        x.due("append " + 0x20202020L, 900);
        x.refused("append #", Run.FULL, 32, 1, -1, Long.MIN_VALUE);
    }

    static void promise02_upTo900InOneNumberButNot901() {
        new Run().repeat(111, "append " + EIGHT_SPACES).due("append " + 0x20202020L, 892)
            .due("append " + EIGHT_SPACES, 900);
        new Run().repeat(111, "append " + EIGHT_SPACES).due("append " + 0x2020202020L, 893)
            .refused("append #", Run.FULL, EIGHT_SPACES).due("append " + 0x20202020202020L, 900);
    }

    static void promise02_nothingMoreFitsAFullBuffer() {
        new Run().repeat(112, "append " + EIGHT_SPACES).due("append " + 0x20202020L, 900).due("append 0", 900);
    }

    static void promise02_aFullBufferIsReadToItsLastByte() {
        Run x = new Run().repeat(111, "append " + EIGHT_SPACES);
        x.due("append " + Checks.packed("    peop"), 896).due("append " + Checks.packed("le 5"), 900);
        x.due("append 54", Run.FULL).due("load", 0).due("count 5", 5).due("append 0", 0);
    }

    static void promise03_aWordAtTheLastByteOfAFullBuffer() {
        error("people 1;" + " ".repeat(885) + "people", 1, 900, 1);
        error("people 1;" + " ".repeat(885) + "peoplx", 1, 894, 1);
        error("people 1;" + " ".repeat(885) + "peopl;", 1, 894, 1);
        error("people 1;" + " ".repeat(883) + "people 7", 2, 899, 1);
        error("people 1;" + " ".repeat(883) + "people x", 1, 899, 1);
        fine("people 1;" + " ".repeat(883) + "people 6", 0);
    }

    static void promise03_accountFrom0To1000000() {
        range("account ", "", 0, 1000000, 0);
        Run.of("account 1000000;account 0").due("account 0", 1000000).due("account 1", 0);
    }

    static void promise03_fourAccountsButNotAFifth() {
        String four = ACCOUNT.repeat(3) + "account 5";
        fine(four, 0);
        error(four + ";account 5", 3, 40, 4);
    }

    static void promise03_envelopeMonthlyFrom0To1000000() {
        range("envelope ", " 0 0", 0, 1000000, 0);
        Run.of("envelope 1000000 0 0;envelope 0 0 0").due("envelope 0 1", 1000000).due("envelope 1 1", 0);
    }

    static void promise03_envelopeModeFrom0To2() {
        range("envelope 0 ", " 0", 0, 2, 0);
        Run.of("envelope 0 0 0;envelope 0 1 0;envelope 0 2 0").each("envelope # 2", 0, 1, 2);
    }

    static void promise03_envelopeCapFrom0To1000000() {
        range("envelope 0 2 ", "", 0, 1000000, 0);
        range("envelope 0 0 0;envelope 0 2 ", " in 0", 0, 1000000, 1);
        Run.of("envelope 0 0 1000000;envelope 0 0 0").each("envelope # 3", 1000000, 0);
    }

    static void promise03_envelopeLiesInOneDescribedBeforeNotInItself() {
        error("envelope 0 0 0 in 0", 2, 18, 0);
        range("envelope 0 0 0;envelope 0 0 0;envelope 0 0 0 in ", "", 0, 1, 2);
        error("envelope 0 0 0 in 1;envelope 0 0 0", 2, 18, 0);
        Run.of("envelope 0 0 0;envelope 0 0 0;envelope 0 0 0 in 1;envelope 0 0 0 in 0")
            .each("envelope # 4", Run.NONE, Run.NONE, 1, 0);
    }

    static void promise03_tenEnvelopesButNotAnEleventh() {
        String ten = "envelope 0 0 0;".repeat(9) + "envelope 0 0 0";
        fine(ten, 10);
        error(ten + ";envelope 0 0 0", 3, 150, 10);
    }

    static void promise03_tenEnvelopesEachInTheOneBefore() {
        StringBuilder text = new StringBuilder("envelope 0 0 0");
        for (int i = 0; i < 9; i++) {
            text.append(";envelope 0 0 0 in ").append(i);
        }
        Run.of(text.toString()).each("envelope # 6", 0, 1, 2, 3, 4, 5, 6, 7, 8, 9);
    }

    static void promise03_fundTargetFrom1To1000000() {
        range(ACCOUNT + "fund ", " 1 0 0", 1, 1000000, 1);
        Run.of(ACCOUNT + "fund 1 1 0 0;fund 1000000 1 0 0").each("fund # 1", 1, 1000000);
    }

    static void promise03_fundDueFrom1To20000() {
        range(ACCOUNT + "fund 1 ", " 0 0", 1, 20000, 1);
        Run.of(ACCOUNT + "fund 1 1 0 0;fund 1 20000 0 0").each("fund # 2", 1, 20000);
    }

    static void promise03_fundAgainFrom0To400() {
        range(ACCOUNT + "fund 1 1 ", " 0", 0, 400, 1);
        Run.of(ACCOUNT + "fund 1 1 0 0;fund 1 1 400 0").each("fund # 3", 0, 400);
    }

    static void promise03_fundAccountDescribedBefore() {
        range(ACCOUNT + "account 6;fund 1 1 0 ", ";account 7", 0, 1, 2);
        error("fund 1 1 0 0", 2, 11, 0);
        error("fund 1 1 0 0;account 5", 2, 11, 0);
        Run.of(ACCOUNT + "account 6;fund 1 1 0 0;fund 1 1 0 1").each("fund # 4", 0, 1);
    }

    static void promise03_sixFundsButNotASeventh() {
        String six = ACCOUNT + "fund 1 1 0 0;".repeat(5) + "fund 1 1 0 0";
        fine(six, 0);
        error(six + ";fund 1 1 0 0", 3, 88, 7);
    }

    static void promise03_incomeAccountDescribedBefore() {
        range(ACCOUNT + "account 6;income ", " 1 1 0;account 7", 0, 1, 2);
        error("income 0 1 1 0", 2, 7, 0);
        error("income 0 1 1 0;account 5", 2, 7, 0);
        Run.of(ACCOUNT + "account 6;income 0 1 1 0;income 1 1 1 0").each("income # 0", 0, 1);
    }

    static void promise03_incomeAmountFrom1To1000000() {
        range(ACCOUNT + "income 0 ", " 1 0", 1, 1000000, 1);
        Run.of(ACCOUNT + "income 0 1 1 0;income 0 1000000 1 0").each("income # 1", 1, 1000000);
    }

    static void promise03_incomeFirstFrom1To20000() {
        range(ACCOUNT + "income 0 1 ", " 0", 1, 20000, 1);
        Run.of(ACCOUNT + "income 0 1 1 0;income 0 1 20000 0").each("income # 2", 1, 20000);
    }

    static void promise03_incomeEveryFrom0To400() {
        range(ACCOUNT + "income 0 1 1 ", "", 0, 400, 1);
        Run.of(ACCOUNT + "income 0 1 1 0;income 0 1 1 400").each("income # 3", 0, 400);
    }

    static void promise03_fourIncomesButNotAFifth() {
        String four = ACCOUNT + "income 0 1 1 0;".repeat(3) + "income 0 1 1 0";
        fine(four, 0);
        error(four + ";income 0 1 1 0", 3, 70, 5);
    }

    static void promise03_billEnvelopeDescribedBefore() {
        range(BOTH + "envelope 0 0 0;bill ", " 0 1 1 0;envelope 0 0 0", 0, 1, 3);
        error(ACCOUNT + "bill 0 0 1 1 0", 2, 15, 1);
        error(ACCOUNT + "bill 0 0 1 1 0;envelope 0 0 0", 2, 15, 1);
        Run.of(BOTH + "envelope 0 0 0;bill 0 0 1 1 0;bill 1 0 1 1 0").each("bill # 0", 0, 1);
    }

    static void promise03_billAccountDescribedBefore() {
        range(BOTH + "account 6;bill 0 ", " 1 1 0;account 7", 0, 1, 3);
        error("envelope 0 0 0;bill 0 0 1 1 0", 2, 22, 1);
        error("envelope 0 0 0;bill 0 0 1 1 0;account 5", 2, 22, 1);
        Run.of(BOTH + "account 6;bill 0 0 1 1 0;bill 0 1 1 1 0").each("bill # 1", 0, 1);
    }

    static void promise03_billAmountFrom1To1000000() {
        range(BOTH + "bill 0 0 ", " 1 0", 1, 1000000, 2);
        Run.of(BOTH + "bill 0 0 1 1 0;bill 0 0 1000000 1 0").each("bill # 2", 1, 1000000);
    }

    static void promise03_billFirstFrom1To20000() {
        range(BOTH + "bill 0 0 1 ", " 0", 1, 20000, 2);
        Run.of(BOTH + "bill 0 0 1 1 0;bill 0 0 1 20000 0").each("bill # 3", 1, 20000);
    }

    static void promise03_billEveryFrom0To400() {
        range(BOTH + "bill 0 0 1 1 ", "", 0, 400, 2);
        Run.of(BOTH + "bill 0 0 1 1 0;bill 0 0 1 1 400").each("bill # 4", 0, 400);
    }

    static void promise03_twelveBillsButNotA13th() {
        String twelve = BOTH + "bill 0 0 1 1 0;".repeat(11) + "bill 0 0 1 1 0";
        fine(twelve, 1);
        error(twelve + ";bill 0 0 1 1 0", 3, 205, 14);
    }

    static void promise03_peopleFrom1To6() {
        range("people ", "", 1, 6, 0);
        Run.of("people 1").due("count 5", 1);
        Run.of("people 6").due("count 5", 6).due("net 5", 0).due("net 6", Run.OUT);
    }

    static void promise03_onePersonWithoutPeople() {
        Run.of("people 4").type("account 5").due("load", 0).due("count 5", 1);
    }

    static void promise03_ofSeveralPeopleTheLastOneCounts() {
        Run.of("people 6;account 5;people 2").due("count 5", 2);
        Run.of("people 2;people 6;people 1").due("count 5", 1);
        fine("people 3;".repeat(99) + "people 4", 0);
        error("people 3;people 7", 2, 16, 1);
    }

    static void promise03_allAreNumberedFrom0InTheOrderOfTheText() {
        Run.of("account 5;envelope 11 0 0;fund 21 1 0 0;account 6;envelope 12 0 0;fund 22 1 0 1;income 1 31 1 0;"
            + "bill 1 0 41 1 0;income 0 32 1 0;bill 0 1 42 1 0").each("account #", 5, 6).each("envelope # 1", 11, 12)
            .each("fund # 1", 21, 22).each("income # 1", 31, 32).each("bill # 2", 41, 42);
    }

    static void promise03_eachKindMayComeBehindAllOfTheOthers() {
        String[] kinds = {"account 5;".repeat(3) + "account 7", "envelope 1 0 0;".repeat(9) + "envelope 2 0 0",
            "fund 1 1 0 0;".repeat(5) + "fund 2 1 0 0", "income 0 1 1 0;".repeat(3) + "income 0 2 1 0",
            "bill 0 0 1 1 0;".repeat(11) + "bill 0 0 2 1 0", "people 6"};
        int[][] orders = {{1, 0, 4, 3, 2, 5}, {0, 2, 3, 1, 4, 5}, {5, 1, 0, 2, 4, 3}, {0, 3, 1, 4, 2, 5}};
        for (int[] order : orders) {
            StringBuilder text = new StringBuilder(kinds[order[0]]);
            for (int i = 1; i < order.length; i++) {
                text.append(';').append(kinds[order[i]]);
            }
            Run.of(text.toString()).each("count #", 4, 10, 6, 4, 12, 6).due("account 3", 7).due("envelope 9 1", 2)
                .due("fund 5 1", 2).due("income 3 1", 2).due("bill 11 2", 2).due("pool", 22);
        }
    }

    static void promise03_oneStatementButNotNone() {
        fine("people 1", 0);
        error("", 1, 0, 0);
        error(" ", 1, 1, 0);
        error(" ".repeat(900), 1, 900, 0);
    }

    static void promise03_semicolonsOnlyBetweenStatements() {
        fine("people 1;people 2", 0);
        error(";people 1", 1, 0, 0);
        error("people 1;", 1, 9, 1);
        error("people 1;;people 2", 1, 9, 1);
        error("people 1 people 2", 1, 9, 0);
        error("people;1", 1, 6, 0);
        error("people 1,people 2", 1, 8, 0);
    }

    static void promise03_aWordIsAMaximalRunOfLowerCaseLetters() {
        fine("people 1", 0);
        error("peoplea 1", 1, 0, 0);
        error("peoplez 1", 1, 0, 0);
        error("peopl 1", 1, 0, 0);
        error("peoplepeople 1", 1, 0, 0);
        error("peo ple 1", 1, 0, 0);
        error("people` 1", 1, 6, 0);
        error("people{ 1", 1, 6, 0);
        error("peopleZ 1", 1, 6, 0);
        error("`people 1", 1, 0, 0);
        error("{people 1", 1, 0, 0);
        error("People 1", 1, 0, 0);
    }

    static void promise03_aNumberIsAMaximalRunOfDigits() {
        fine("people 1", 0);
        error("people 1/", 1, 8, 0);
        error("people 1:", 1, 8, 0);
        error("people /1", 1, 7, 0);
        error("people :1", 1, 7, 0);
        error("people 61", 2, 7, 0);
        error("people +1", 1, 7, 0);
        error("people 1.0", 1, 8, 0);
    }

    static void promise03_aNumberMayBeginWithZeros() {
        Run.of("account 0001000000;people " + "0".repeat(800) + "6").due("account 0", 1000000).due("count 5", 6);
        error("account 0001000001", 2, 8, 0);
        error("people " + "0".repeat(893), 2, 7, 0);
    }

    static void promise03_digitsWithoutEndDoNotWrapAround() {
        error("people " + "9".repeat(893), 2, 7, 0);
        error("people 4294967297", 2, 7, 0);
        error("people 18446744073709551617", 2, 7, 0);
        error("people 100000000000000000000000000000000000000000000000001", 2, 7, 0);
    }

    static void promise03_spacesMayStandAroundAll() {
        Run x = new Run().type("   account   5   ;   envelope  1  2  3   ;  envelope 4 1 5   in   0  ; people  2  ");
        x.due("load", 2).due("account 0", 5).row("envelope 1", 0, 4, 1, 5, 0, 0, 1).due("count 5", 2);
    }

    static void promise03_spacesAreRequiredOnlyBetweenTwoNumbers() {
        Run.of("account5;envelope1 2 3;envelope4 1 5in0;people2").due("account 0", 5)
            .row("envelope 1", 0, 4, 1, 5, 0, 0, 1).due("count 5", 2);
        error("envelope 12 0", 1, 13, 0);
    }

    static void promise03_onlyByte32IsASpace() {
        fine("people 1", 0);
        for (char other : new char[] {1, 9, 10, 11, 13, 31, 33, 127, 160, 255}) {
            error("people" + other + "1", 1, 6, 0);
            error("people 1" + other, 1, 8, 0);
            error(other + "people 1", 1, 0, 0);
        }
    }

    static void promise03_error1AtAByteOrAWordThatCannotStandThere() {
        error("account five", 1, 8, 0);
        error("account  five", 1, 9, 0);
        error("account -5", 1, 8, 0);
        error("account 5 6", 1, 10, 0);
        error("account 5six", 1, 9, 0);
        error("account 5 in 0", 1, 10, 0);
        error("5", 1, 0, 0);
        error(" in 0", 1, 1, 0);
        error("envelope 0 0 0 0", 1, 15, 0);
        error("envelope 0 0 0 on 0", 1, 15, 0);
        error("envelope 0 0 0 inn 0", 1, 15, 0);
        error("envelope 0 0 0 i 0", 1, 15, 0);
        error("envelope 0 0 0;envelope 0 0 0 in x", 1, 33, 1);
        error("envelope 0 0 0;envelope 0 0 0 in 0 in 0", 1, 35, 1);
        error("envelope 0 0 0;envelope 0 0 0 in 0 0", 1, 35, 1);
        error("envelope 0 in 0", 1, 11, 0);
        error("people 1 1", 1, 9, 0);
    }

    /** Every text that ends within a statement has its error at its length. */
    static void promise03_error1AtTheLengthOfATextThatEndsTooEarly() {
        String[] statements = {"account ", "envelope 0 0 ", "envelope 0 0 0 in ", "fund 1 1 0 ", "income 0 1 1 ",
            "bill 0 0 1 1 ", "people "};
        for (String statement : statements) {
            for (int end = 1; end <= statement.length(); end++) {
                String cut = BOTH + statement.substring(0, end);
                char last = cut.charAt(cut.length() - 1);
                boolean midWord = last >= 'a' && last <= 'z' && statement.charAt(end) != ' ';
                boolean whole = cut.endsWith("0 0 0") || cut.endsWith("0 0 0 ");
                if (!midWord && !whole) {
                    error(cut, 1, cut.length(), 2);
                }
            }
        }
        error("peopl", 1, 0, 0);
        error("envelope 0 0 0 i", 1, 15, 0);
        fine(BOTH + "envelope 0 0 0 ", 2);
    }

    static void promise03_error2AtTheFirstDigit() {
        error("people    0007", 2, 10, 0);
        error("people7", 2, 6, 0);
        error("envelope 1 2 3 in 000", 2, 18, 0);
        error(" account 5 ; fund 1 1 0   1", 2, 26, 1);
    }

    static void promise03_error3AtItsWordAheadOfErrorsBehindIt() {
        String four = ACCOUNT.repeat(4);
        error(four + "  account", 3, 42, 4);
        error(four + "account x", 3, 40, 4);
        error(four + "account 1000001", 3, 40, 4);
        error(four + "accounts 5", 1, 40, 4);
        error(four + "fund 1 1 0 4", 2, 51, 4);
    }

    static void promise03_theFirstErrorEndsTheText() {
        error("people 7;account x", 2, 7, 0);
        error("people 7x", 2, 7, 0);
        error("account x;people 7", 1, 8, 0);
        error("envelope 1000001 3 1000001 in 0", 2, 9, 0);
        error("envelope 0 3 1000001 in 0", 2, 11, 0);
        error("envelope 0 0 1000001 in 0", 2, 13, 0);
        error("envelope 0 0 0 x 0;envelope", 1, 15, 0);
        error("fund 0 0 401 0", 2, 5, 0);
    }

    static void promise03_atTheBeginningThePoolIsTheSumOfAllAccounts() {
        Run.of("account 1000000;account 1000000;account 1000000;account 1000000").due("pool", 4000000);
        Run.of("account 0;account 7").due("pool", 7);
        Run.of("envelope 5 0 0").due("pool", 0);
    }

    static void promise03_atTheBeginningEnvelopesAndFundsAreEmptyAndNobodyOwes() {
        used().type(BOTH + "envelope 9 1 9;fund 7 7 7 0;fund 8 8 8 0;people 6").due("load", 2)
            .each("envelope # 0", 0, 0).each("envelope # 5", 0, 0).each("fund # 0", 0, 0).each("fund # 5", 0, 0)
            .each("net #", 0, 0, 0, 0, 0, 0).due("transfers", 0);
    }

    static void promise03_returnsTheNumberOfEnvelopes() {
        fine("account 5", 0);
        fine("envelope 0 0 0", 1);
        fine("envelope 0 0 0;".repeat(8) + "envelope 0 0 0", 9);
        fine("envelope 0 0 0;".repeat(9) + "envelope 0 0 0", 10);
    }

    static void promise03_returnsMinus100MinusThePosition() {
        new Run().due("load", -100);
        new Run().type("x").due("load", -100);
        new Run().type(" x").due("load", -101);
        new Run().type("people 1;" + " ".repeat(890) + "x").due("load", -999);
        new Run().type("people 1;" + " ".repeat(891)).due("load", -1000);
    }

    static void promise03_beginsAnewOnDay0AsANewObjectDoes() {
        String text = BOTH + "fund 9 5 3 0;income 0 4 2 6;bill 0 0 7 3 1;people 4";
        Run again = used().type(text).make("load");
        again.due("day", 0).alike(Run.of(text), Later.Part.SNAPSHOTS);
    }

    static void promise03_nothingCanBeTakenBackBehindIt() {
        used().due("count 6", 3).type("people 1").make("load").due("count 6", 0).unchanged("undo", Run.NONE);
    }

    static void promise03_theSnapshotsStay() {
        Run x = used();
        String saved = Later.told(x.twin().make("restoreSnapshot 1"), Later.Part.STATE);
        x.type("people 1").make("load").due("restoreSnapshot 0", Run.NONE).due("restoreSnapshot 1", 5);
        Cases.right(Later.told(x.twin(), Later.Part.STATE).equals(saved), "the snapshot is another one");
        used().type("people 9").make("load").due("restoreSnapshot 1", 5);
    }

    static void promise03_nothingOfALongerTextBeforeIsReadAgain() {
        new Run().type("peoplepeople 6").due("load", -100).type("people").due("load", -106).type("peopl")
            .due("load", -100).due("loadError", 1);
        new Run().type("people  ;").due("load", -108).type("people").due("load", -106).due("loadError", 1);
        new Run().type("people 6666").due("load", -107).type("people 6").due("load", 0).due("count 5", 6);
        new Run().type("people 6  ;people 9").due("load", -118).type("people 5").due("load", 0).due("count 5", 5);
        new Run().type("account 5;account 6;account 7").due("load", 0).type("account 8").due("load", 0)
            .due("count 0", 1).due("pool", 8);
    }

    static void promise03_theBufferIsEmptiedAlsoOnAnError() {
        new Run().type("people 2").due("append 0", 8).due("load", 0).due("append 0", 0).due("load", -100);
        new Run().type("people 9").due("load", -107).due("append 0", 0).type("people 3").due("load", 0)
            .due("count 5", 3);
        new Run().type("people 1x").due("load", -108).due("append 0", 0);
        new Run().type("people x").due("load", -107).due("append 0", 0);
    }

    static void promise03_anErrorChangesNothingButTheBufferAndTheResults() {
        String[] texts = {"", "account 7;envelope 1 1 1;fund 9 9 9 0;income 0 9 9 9;bill 0 0 9 9 9;people 6;people 7",
            "account 1;account 2;account 3;account 4;account 5", "people 2;x"};
        for (String text : texts) {
            Run x = used();
            Run without = x.twin();
            x.type(text).make("load");
            x.alike(without, Later.Part.RESULTS);
            x.differs(without, Later.Part.RESULTS);
        }
    }

    static void promise04_0IfThereWasNoSuchCall() {
        new Run().due("loadError", 0).type("x").due("loadError", 0);
    }

    static void promise04_1To3AndThen0WithoutAnError() {
        Run x = new Run().type("people x").make("load").due("loadError", 1);
        x.type("people 7").make("load").due("loadError", 2);
        x.type(ACCOUNT.repeat(4) + "account 5").make("load").due("loadError", 3);
        x.type("people 6").make("load").due("loadError", 0);
    }

    static void promise04_ofTheLatestCallWhateverCameThen() {
        Run x = Run.of("account 5").make("saveSnapshot 0", "deposit 0 1").type("people 7").make("load");
        x.type("people 6").make("undo", "restoreSnapshot 0").due("loadError", 2).due("loadStatement", 0);
    }

    static void promise05_noneWithoutAnErrorOrSuchACall() {
        Run x = new Run().due("loadStatement", Run.NONE).type("people 1;x").due("loadStatement", Run.NONE);
        x.make("load").due("loadStatement", 1).type("people 1").make("load").due("loadStatement", Run.NONE);
    }

    static void promise05_from0ToTheLastStatement() {
        error("x;people 1", 1, 0, 0);
        error("people 1;x", 1, 9, 1);
        error("people 1;".repeat(99) + "people 7", 2, 898, 99);
        error("people 1;".repeat(99) + "people 1;", 1, 900, 100);
    }

    static void promise05_aByteBehindAStatementBelongsToIt() {
        error("people 1!;people 2", 1, 8, 0);
        error("people 1 !;people 2", 1, 9, 0);
        error("people 1;people 2 5;people 3", 1, 18, 1);
        error("people 1;people 2 people 3", 1, 18, 1);
    }

    static void promise05_whatFollowsASemicolonBelongsToTheNextOne() {
        error("people 1;!people 2", 1, 9, 1);
        error("people 1; !", 1, 10, 1);
        error("people 1;", 1, 9, 1);
        error("people 1;  ", 1, 11, 1);
    }

    static void promise06_whatFrom0To7() {
        used().refused("count #", Run.ILLEGAL, -1, 8, Run.LEAST, Run.MOST)
            .each("count #", 2, 2, 1, 1, 1, 3, 3, 2);
    }

    static void promise06_countsAtTheirLimits() {
        Run.of(ACCOUNT.repeat(4) + "envelope 0 0 0;".repeat(10) + "fund 1 1 1 0;".repeat(6)
            + "income 0 1 1 1;".repeat(4) + "bill 0 0 1 1 1;".repeat(12) + "people 6")
            .each("count #", 4, 10, 6, 4, 12, 6, 0, 0).make("run 2").each("count #", 4, 10, 6, 4, 12, 6, 1, 40);
    }

    static void promise06_whatHasEndedCountsOn() {
        Run.of(BOTH + "fund 1 1 0 0;income 0 1 1 0;bill 0 0 1 1 0").make("run 1")
            .each("count #", 1, 1, 1, 1, 1, 1, 1, 3);
    }

    static void promise06_eightActionsAtMost() {
        Run.of("account 5").due("count 6", 0).repeat(7, "deposit 0 1").due("count 6", 7).make("deposit 0 1")
            .due("count 6", 8).make("deposit 0 1").due("count 6", 8);
    }

    static void promise06_fortyEntriesAtMost() {
        Run.of(ACCOUNT + "income 0 1 1 1").make("run 29").due("count 7", 29).make("run 10").due("count 7", 40)
            .make("run 1").due("count 7", 40);
    }

    public static void main(String[] args) {
        Cases.runAll(Edges01To06Test.class);
    }
}
