/** What later calls answer; of two budgets that answer all of them alike none was changed alone. */
final class Later {
    /** Each part is asked of a twin of its own, so that none makes more than 512 calls. */
    enum Part { STATE, LOG, TREES_DEBTS_DUE, FORECASTS, BACK, FORWARD, RESULTS, BUFFER, SNAPSHOTS }

    private final Run run;
    private final StringBuilder all = new StringBuilder();

    private Later(Run run) {
        this.run = run;
    }

    static String told(Run x, Part part) {
        Later later = new Later(x);
        switch (part) {
            case STATE: later.state(); break;
            case LOG: later.rows("logPart", 41, 5); break;
            case TREES_DEBTS_DUE: later.treesDebtsDue(); break;
            case FORECASTS: later.forecasts(); break;
            case BACK: later.back(); break;
            case FORWARD: later.forward(); break;
            case RESULTS: later.ask("loadError", "loadStatement"); break;
            case BUFFER: later.buffer(); break;
            default: later.snapshots(); break;
        }
        return later.all.toString();
    }

    private void ask(String... calls) {
        for (String call : calls) {
            all.append(call).append(" = ").append(run.answer(call)).append("; ");
        }
    }

    private int count(int what) {
        return ((Long) run.answer("count " + what)).intValue();
    }

    private void rows(String call, int rows, int columns) {
        for (int i = 0; i < rows; i++) {
            for (int what = 0; what < columns; what++) {
                ask(call + " " + i + " " + what);
            }
        }
    }

    private void column(String call, int rows) {
        for (int i = 0; i < rows; i++) {
            ask(call.replace("#", String.valueOf(i)));
        }
    }

    private void state() {
        ask("day", "pool", "isBalanced", "lacks");
        column("count #", 8);
        column("account #", count(0));
        rows("envelope", count(1), 7);
        rows("fund", count(2), 6);
        rows("income", count(3), 4);
        rows("bill", count(4), 5);
        column("net #", count(5));
    }

    private void balances() {
        ask("day", "pool", "count 4", "count 6", "count 7", "logPart 0 0", "logPart 0 2");
        column("account #", count(0));
        column("envelope # 0", count(1));
        column("fund # 0", count(2));
    }

    private void treesDebtsDue() {
        int envelopes = count(1);
        int funds = count(2);
        column("tree #", envelopes);
        column("inside #", envelopes);
        column("spentPerDay #", envelopes);
        column("enough #", envelopes);
        column("need #", funds);
        column("filled #", funds);
        column("dueNext #", 19);
        ask("transfers");
        rows("transferPart", 6, 3);
    }

    private void forecasts() {
        int accounts = count(0);
        int envelopes = count(1);
        for (int days : new int[] {0, 1, 30, 2000}) {
            ask("tightest " + days + " 0", "tightest " + days + " 1", "poolLow " + days, "safe " + days,
                "billsWithin " + days);
            column("accountLow # " + days, accounts);
            column("shortDay # " + days, envelopes);
        }
        column("fundLack #", count(2));
        ask("bestDay 5 30", "bestDay 1000000 2000");
    }

    private void back() {
        for (int i = 0; i < 9; i++) {
            ask("undo");
            balances();
        }
    }

    private void forward() {
        for (String call : new String[] {"run 1", "allot", "run 40", "allot"}) {
            ask(call);
            balances();
        }
        state();
    }

    private void buffer() {
        ask("append 0", "append 32", "load", "loadError", "loadStatement");
        state();
    }

    private void snapshots() {
        ask("restoreSnapshot 0");
        balances();
        ask("restoreSnapshot 1");
        state();
    }
}
