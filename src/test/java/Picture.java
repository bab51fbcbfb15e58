/** All that a budget tells of itself, but for the actions, as one text that can be compared. */
final class Picture {
    private Picture() {
    }

    static String of(EnvelopeBudget x) {
        StringBuilder all = new StringBuilder();
        all.append("day ").append(x.day()).append(" pool ").append(x.pool()).append(" counts");
        for (int what = 0; what < 8; what++) {
            all.append(' ').append(what == 6 ? 0 : x.count(what));
        }
        table(all, "accounts", x.count(0), 1, (i, what) -> x.account(i));
        table(all, "envelopes", x.count(1), 7, x::envelope);
        table(all, "funds", x.count(2), 6, x::fund);
        table(all, "incomes", x.count(3), 4, x::income);
        table(all, "bills", x.count(4), 5, x::bill);
        table(all, "nets", x.count(5), 1, (i, what) -> x.net(i));
        table(all, "log", x.count(7), 5, x::logPart);
        return all.toString();
    }

    private interface Part {
        long of(int index, int what);
    }

    private static void table(StringBuilder all, String name, int rows, int columns, Part part) {
        all.append('\n').append(name);
        for (int i = 0; i < rows; i++) {
            all.append(" |");
            for (int what = 0; what < columns; what++) {
                all.append(' ').append(part.of(i, what));
            }
        }
    }
}
