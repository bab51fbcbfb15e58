import java.util.ArrayDeque;
import java.util.ArrayList;
import java.util.Collections;
import java.util.Comparator;
import java.util.Deque;
import java.util.List;

/** A second budget, written from the document in another way, slow and simple, to compare with. */
final class Model {
    private static final int NONE = -1;
    private static final int FULL = -2;
    private static final long LACK = -3000000000000L;
    private static final int GONE = -2000000001;
    private static final long NO_VALUE = -4000000000000L;
    private static final int MILLION = 1000000;

    /** Rows hold the numbers in the order in which the promises 10 and 13 to 15 tell them. */
    static final class State {
        int day;
        long pool;
        int people = 1;
        List<long[]> accounts = new ArrayList<>();
        List<long[]> envelopes = new ArrayList<>();
        List<long[]> funds = new ArrayList<>();
        List<long[]> incomes = new ArrayList<>();
        List<long[]> bills = new ArrayList<>();
        List<long[]> log = new ArrayList<>();
        long[] nets = new long[6];

        State copy() {
            State s = new State();
            s.day = day;
            s.pool = pool;
            s.people = people;
            s.accounts = copied(accounts);
            s.envelopes = copied(envelopes);
            s.funds = copied(funds);
            s.incomes = copied(incomes);
            s.bills = copied(bills);
            s.log = copied(log);
            s.nets = nets.clone();
            return s;
        }

        private static List<long[]> copied(List<long[]> rows) {
            List<long[]> all = new ArrayList<>();
            for (long[] row : rows) {
                all.add(row.clone());
            }
            return all;
        }

        void enter(long kind, long number, long amount, long uncovered) {
            log.add(0, new long[] {kind, day, number, amount, uncovered});
            if (log.size() > 40) {
                log.remove(40);
            }
        }

        void cover(long[] e) {
            for (long p = e[4]; p != NONE && e[0] < 0; p = envelopes.get((int) p)[4]) {
                long[] giver = envelopes.get((int) p);
                while (giver[0] > 0 && e[0] < 0) {
                    long part = Math.min(giver[0], -e[0]);
                    giver[0] -= part;
                    e[0] += part;
                }
            }
            if (e[0] < 0 && pool > 0) {
                long part = Math.min(pool, -e[0]);
                pool -= part;
                e[0] += part;
            }
        }

        void spend(int envelope, long amount) {
            long[] e = envelopes.get(envelope);
            e[0] -= amount;
            e[5] += amount;
            cover(e);
        }

        void payBill(int i) {
            long[] b = bills.get(i);
            accounts.get((int) b[1])[0] -= b[2];
            spend((int) b[0], b[2]);
            long left = envelopes.get((int) b[0])[0];
            enter(1, i, b[2], left < 0 ? -left : 0);
            b[3] = b[4] == 0 ? NONE : b[3] + b[4];
        }

        void payFund(int i) {
            long[] f = funds.get(i);
            accounts.get((int) f[4])[0] -= f[1];
            f[0] -= f[1];
            if (f[0] < 0 && pool > 0) {
                long part = Math.min(pool, -f[0]);
                pool -= part;
                f[0] += part;
            }
            enter(2, i, f[1], f[0] < 0 ? -f[0] : 0);
            f[5]++;
            if (f[3] > 0) {
                f[2] += f[3];
            } else {
                f[2] = NONE;
                pool += f[0];
                f[0] = 0;
            }
        }

        long need(long[] f) {
            if (f[2] == NONE || f[0] >= f[1]) {
                return 0;
            }
            long months = 1;
            while (months * 30 < f[2] - day) {
                months++;
            }
            long lacking = f[1] - f[0];
            return lacking / months + (lacking % months == 0 ? 0 : 1);
        }

        long allot() {
            long before = pool;
            List<long[]> order = new ArrayList<>();
            for (long[] f : funds) {
                if (f[2] != NONE) {
                    order.add(f);
                }
            }
            Collections.sort(order, Comparator.comparingLong(f -> f[2]));
            for (long[] f : order) {
                long part = pool <= 0 ? 0 : Math.min(pool, need(f));
                f[0] += part;
                pool -= part;
            }
            for (long[] e : envelopes) {
                long part = pool <= 0 ? 0 : Math.min(pool, e[1]);
                e[0] += part;
                pool -= part;
            }
            return before - pool;
        }

        void untilBills() {
            day++;
            for (int i = 0; i < incomes.size(); i++) {
                long[] in = incomes.get(i);
                if (in[2] == day) {
                    accounts.get((int) in[0])[0] += in[1];
                    pool += in[1];
                    in[2] = in[3] == 0 ? NONE : day + in[3];
                    enter(0, i, in[1], 0);
                }
            }
            if (day % 30 == 0) {
                for (long[] e : envelopes) {
                    long keep = e[0] <= 0 || e[2] == 1 ? e[0] : e[2] == 0 ? 0 : Math.min(e[0], e[3]);
                    pool += e[0] - keep;
                    e[0] = keep;
                }
                enter(3, NONE, allot(), 0);
            }
            for (int i = 0; i < bills.size(); i++) {
                if (bills.get(i)[3] == day) {
                    payBill(i);
                }
            }
        }

        void pass() {
            untilBills();
            for (int i = 0; i < funds.size(); i++) {
                if (funds.get(i)[2] == day) {
                    payFund(i);
                }
            }
        }

        long sum() {
            long sum = 0;
            for (long[] a : accounts) {
                sum += a[0];
            }
            return sum;
        }
    }

    private static final class Wrong extends Exception {
        private static final long serialVersionUID = 1;
        final int kind;
        final int position;
        final int statement;

        Wrong(int kind, int position, int statement) {
            this.kind = kind;
            this.position = position;
            this.statement = statement;
        }
    }

    private State now = new State();
    private final Deque<State> past = new ArrayDeque<>();
    private final State[] snapshots = new State[2];
    private String buffer = "";
    private int error;
    private int statement = NONE;

    private void act() {
        past.push(now.copy());
        if (past.size() > 8) {
            past.removeLast();
        }
    }

    private static void out(boolean bad) {
        if (bad) {
            throw new IndexOutOfBoundsException();
        }
    }

    private static void illegal(boolean bad) {
        if (bad) {
            throw new IllegalArgumentException();
        }
    }

    private static <T> T at(List<T> rows, int index) {
        out(index < 0 || index >= rows.size());
        return rows.get(index);
    }

    private static void amount(int amount) {
        illegal(amount < 1 || amount > MILLION);
    }

    private static void ahead(int days) {
        illegal(days < 0 || days > 2000);
    }

    public int append(long bytes) {
        String more = "";
        for (int i = 7; i >= 0; i--) {
            int one = (int) (bytes >> 8 * i) & 255;
            more += one == 0 ? "" : String.valueOf((char) one);
        }
        if (buffer.length() + more.length() > 900) {
            return FULL;
        }
        buffer += more;
        return buffer.length();
    }

    public int load() {
        String text = buffer;
        buffer = "";
        try {
            State read = parsed(text);
            now = read;
            past.clear();
            error = 0;
            statement = NONE;
            return now.envelopes.size();
        } catch (Wrong wrong) {
            error = wrong.kind;
            statement = wrong.statement;
            return -100 - wrong.position;
        }
    }

    /** The parts of a text with their positions: words, numbers and single bytes; the end is an empty part. */
    private static List<Object[]> parts(String text) {
        List<Object[]> all = new ArrayList<>();
        int i = 0;
        while (i < text.length()) {
            int end = i + 1;
            String rest = text.substring(i);
            if (rest.matches("(?s)[a-z].*")) {
                end = i + rest.length() - rest.replaceFirst("^[a-z]+", "").length();
            } else if (rest.matches("(?s)[0-9].*")) {
                end = i + rest.length() - rest.replaceFirst("^[0-9]+", "").length();
            }
            if (text.charAt(i) != ' ') {
                all.add(new Object[] {text.substring(i, end), i});
            }
            i = end;
        }
        all.add(new Object[] {"", text.length()});
        return all;
    }

    private static State parsed(String text) throws Wrong {
        State s = new State();
        List<Object[]> parts = parts(text);
        int k = 0;
        for (int n = 0;; n++) {
            String word = (String) parts.get(k)[0];
            int position = (int) parts.get(k)[1];
            String[] names = {"account", "envelope", "fund", "income", "bill", "people"};
            String[] forms = {"M", "MOM", "TUVA", "ATUV", "EATUV", "P"};
            List<List<long[]>> rows = List.of(s.accounts, s.envelopes, s.funds, s.incomes, s.bills, new ArrayList<>());
            int[] most = {4, 10, 6, 4, 12, 1};
            int kind = List.of(names).indexOf(word);
            if (kind < 0) {
                throw new Wrong(1, position, n);
            }
            if (rows.get(kind).size() >= most[kind]) {
                throw new Wrong(3, position, n);
            }
            k++;
            long[] got = new long[6];
            for (int i = 0; i < forms[kind].length(); i++) {
                got[i] = number(parts.get(k++), forms[kind].charAt(i), s, n);
            }
            long outer = NONE;
            if (kind == 1 && parts.get(k)[0].equals("in")) {
                k++;
                outer = number(parts.get(k++), 'E', s, n);
            }
            switch (kind) {
                case 0: s.accounts.add(new long[] {got[0]}); s.pool += got[0]; break;
                case 1: s.envelopes.add(new long[] {0, got[0], got[1], got[2], outer, 0}); break;
                case 2: s.funds.add(new long[] {0, got[0], got[1], got[2], got[3], 0}); break;
                case 3: s.incomes.add(new long[] {got[0], got[1], got[2], got[3]}); break;
                case 4: s.bills.add(new long[] {got[0], got[1], got[2], got[3], got[4]}); break;
                default: s.people = (int) got[0]; break;
            }
            String behind = (String) parts.get(k)[0];
            if (behind.isEmpty()) {
                return s;
            }
            if (!behind.equals(";")) {
                throw new Wrong(1, (int) parts.get(k)[1], n);
            }
            k++;
        }
    }

    private static long number(Object[] part, char form, State s, int n) throws Wrong {
        String digits = (String) part[0];
        if (!digits.matches("[0-9]+")) {
            throw new Wrong(1, (int) part[1], n);
        }
        int low = "TUP".indexOf(form) >= 0 ? 1 : 0;
        int high = 0;
        switch (form) {
            case 'M': case 'T': high = MILLION; break;
            case 'O': high = 2; break;
            case 'U': high = 20000; break;
            case 'V': high = 400; break;
            case 'A': high = s.accounts.size() - 1; break;
            case 'E': high = s.envelopes.size() - 1; break;
            default: high = 6; break;
        }
        java.math.BigInteger value = new java.math.BigInteger(digits);
        if (value.compareTo(java.math.BigInteger.valueOf(low)) < 0
                || value.compareTo(java.math.BigInteger.valueOf(high)) > 0) {
            throw new Wrong(2, (int) part[1], n);
        }
        return value.longValue();
    }

    public int loadError() {
        return error;
    }

    public int loadStatement() {
        return statement;
    }

    public int count(int what) {
        int[] all = {now.accounts.size(), now.envelopes.size(), now.funds.size(), now.incomes.size(),
            now.bills.size(), now.people, past.size(), now.log.size()};
        illegal(what < 0 || what > 7);
        return all[what];
    }

    public int day() {
        return now.day;
    }

    public long pool() {
        return now.pool;
    }

    public long account(int account) {
        return at(now.accounts, account)[0];
    }

    public long envelope(int envelope, int what) {
        long[] e = at(now.envelopes, envelope);
        illegal(what < 0 || what > 6);
        return what < 6 ? e[what] : e[4] == NONE ? 0 : 1 + envelope((int) e[4], 6);
    }

    private boolean liesIn(int inner, int outer) {
        long next = now.envelopes.get(inner)[4];
        return next != NONE && (next == outer || liesIn((int) next, outer));
    }

    public long tree(int envelope) {
        long sum = at(now.envelopes, envelope)[0];
        for (int i = 0; i < now.envelopes.size(); i++) {
            sum += liesIn(i, envelope) ? now.envelopes.get(i)[0] : 0;
        }
        return sum;
    }

    public int inside(int envelope) {
        at(now.envelopes, envelope);
        int sum = 0;
        for (int i = 0; i < now.envelopes.size(); i++) {
            sum += liesIn(i, envelope) ? (int) Math.pow(2, i) : 0;
        }
        return sum;
    }

    public long fund(int fund, int what) {
        long[] f = at(now.funds, fund);
        illegal(what < 0 || what > 5);
        return f[what];
    }

    public int income(int income, int what) {
        long[] in = at(now.incomes, income);
        illegal(what < 0 || what > 3);
        return (int) in[what];
    }

    public int bill(int bill, int what) {
        long[] b = at(now.bills, bill);
        illegal(what < 0 || what > 4);
        return (int) b[what];
    }

    public long need(int fund) {
        return now.need(at(now.funds, fund));
    }

    public boolean isBalanced() {
        long sum = now.sum() + now.nets[0] - now.pool;
        for (long[] e : now.envelopes) {
            sum -= e[0];
        }
        for (long[] f : now.funds) {
            sum -= f[0];
        }
        return sum == 0;
    }

    public int run(int days) {
        illegal(days < 1 || days > 400);
        if (now.day + days > 20000) {
            return FULL;
        }
        act();
        for (int i = 0; i < days; i++) {
            now.pass();
        }
        return now.day;
    }

    public long allot() {
        act();
        return now.allot();
    }

    public long spend(int envelope, int account, int amount) {
        at(now.envelopes, envelope);
        at(now.accounts, account);
        amount(amount);
        act();
        now.accounts.get(account)[0] -= amount;
        now.spend(envelope, amount);
        return now.envelopes.get(envelope)[0];
    }

    private long has(int place) {
        return place == NONE ? now.pool : now.envelopes.get(place)[0];
    }

    private void change(int place, long amount) {
        if (place == NONE) {
            now.pool += amount;
        } else {
            now.envelopes.get(place)[0] += amount;
        }
    }

    public long shift(int from, int to, int amount) {
        out(from < NONE || from >= now.envelopes.size() || to < NONE || to >= now.envelopes.size());
        illegal(from == to);
        amount(amount);
        if (has(from) < amount) {
            return LACK;
        }
        act();
        change(from, -amount);
        change(to, amount);
        return has(from);
    }

    public long give(int fund, int amount) {
        long[] f = at(now.funds, fund);
        illegal(amount == 0 || Math.abs((long) amount) > MILLION);
        if (f[2] == NONE) {
            return GONE;
        }
        if (now.pool - amount < 0 && amount > 0 || f[0] + amount < 0 && amount < 0) {
            return LACK;
        }
        act();
        now.pool -= amount;
        now.funds.get(fund)[0] += amount;
        return now.funds.get(fund)[0];
    }

    public long transfer(int from, int to, int amount) {
        at(now.accounts, from);
        at(now.accounts, to);
        illegal(from == to);
        amount(amount);
        act();
        now.accounts.get(from)[0] -= amount;
        now.accounts.get(to)[0] += amount;
        return account(from);
    }

    public long deposit(int account, int amount) {
        at(now.accounts, account);
        amount(amount);
        act();
        now.accounts.get(account)[0] += amount;
        now.pool += amount;
        return account(account);
    }

    public int setMonthly(int envelope, int amount) {
        long previous = at(now.envelopes, envelope)[1];
        illegal(amount < 0 || amount > MILLION);
        act();
        now.envelopes.get(envelope)[1] = amount;
        return (int) previous;
    }

    public int setMode(int envelope, int mode, int cap) {
        long previous = at(now.envelopes, envelope)[2];
        illegal(mode < 0 || mode > 2 || cap < 0 || cap > MILLION);
        act();
        now.envelopes.get(envelope)[2] = mode;
        now.envelopes.get(envelope)[3] = cap;
        return (int) previous;
    }

    public int setTarget(int fund, int target) {
        long[] f = at(now.funds, fund);
        amount(target);
        if (f[2] == NONE) {
            return GONE;
        }
        act();
        long previous = f[1];
        f[1] = target;
        return (int) previous;
    }

    public int addBill(int envelope, int account, int amount, int first, int every) {
        at(now.envelopes, envelope);
        at(now.accounts, account);
        amount(amount);
        illegal(first <= now.day || first > 20000 || every < 0 || every > 400);
        if (now.bills.size() == 12) {
            return FULL;
        }
        act();
        now.bills.add(new long[] {envelope, account, amount, first, every});
        return now.bills.size() - 1;
    }

    public int dropBill(int bill) {
        at(now.bills, bill);
        act();
        now.bills.remove(bill);
        return now.bills.size();
    }

    public long pay(int bill) {
        long[] b = at(now.bills, bill);
        if (b[3] == NONE) {
            return GONE;
        }
        act();
        now.payBill(bill);
        return has((int) b[0]);
    }

    public long share(int payer, int place, int envelope, int amount, int people) {
        out(payer < 0 || payer >= now.people);
        out(payer == 0 && (place < 0 || place >= now.accounts.size()));
        out(people % 2 != 0 && (envelope < 0 || envelope >= now.envelopes.size()));
        amount(amount);
        illegal(payer != 0 && place != NONE);
        illegal(people <= 0 || people >= Math.pow(2, now.people));
        act();
        List<Integer> sharers = new ArrayList<>();
        for (int i = 0; i < 6; i++) {
            if ((people >> i) % 2 == 1) {
                sharers.add(i);
            }
        }
        long[] parts = new long[6];
        for (int i = 0; i < sharers.size(); i++) {
            parts[sharers.get(i)] = (amount + sharers.size() - 1 - i) / sharers.size();
        }
        if (parts[0] > 0) {
            now.spend(envelope, parts[0]);
        }
        if (payer == 0) {
            now.accounts.get(place)[0] -= amount;
        }
        for (int i = 0; i < 6; i++) {
            now.nets[i] += (i == payer ? amount : 0) - parts[i];
        }
        return parts[0];
    }

    public long settle(int from, int to, int account, int amount) {
        out(from < 0 || from >= now.people || to < 0 || to >= now.people);
        out((from == 0 || to == 0) && (account < 0 || account >= now.accounts.size()));
        illegal(from == to);
        amount(amount);
        act();
        now.nets[from] += amount;
        now.nets[to] -= amount;
        if (from * to == 0) {
            now.accounts.get(account)[0] += from == 0 ? -amount : amount;
        }
        return now.nets[from];
    }

    public long net(int person) {
        out(person < 0 || person >= now.people);
        return now.nets[person];
    }

    private List<long[]> allTransfers() {
        List<long[]> all = new ArrayList<>();
        List<Long> open = new ArrayList<>();
        for (long net : now.nets) {
            open.add(net);
        }
        while (Collections.min(open) < 0) {
            int payer = open.indexOf(Collections.min(open));
            int receiver = open.indexOf(Collections.max(open));
            long amount = Math.min(-open.get(payer), open.get(receiver));
            open.set(payer, open.get(payer) + amount);
            open.set(receiver, open.get(receiver) - amount);
            all.add(new long[] {payer, receiver, amount});
        }
        return all;
    }

    public int transfers() {
        return allTransfers().size();
    }

    private static long entry(List<long[]> rows, int index, int what, int most) {
        illegal(what < 0 || what > most);
        return index < 0 || index >= rows.size() ? NO_VALUE : rows.get(index)[what];
    }

    public long transferPart(int index, int what) {
        return entry(allTransfers(), index, what, 2);
    }

    public int undo() {
        if (past.isEmpty()) {
            return NONE;
        }
        now = past.pop();
        return past.size();
    }

    public long logPart(int index, int what) {
        return entry(now.log, index, what, 4);
    }

    /** The states today and behind each of the next days. */
    private List<State> states(int days) {
        List<State> all = new ArrayList<>();
        State s = now.copy();
        s.log.clear();
        all.add(s);
        for (int i = 0; i < days; i++) {
            s = s.copy();
            s.pass();
            s.log.clear();
            all.add(s);
        }
        return all;
    }

    public long tightest(int days, int what) {
        ahead(days);
        illegal(what < 0 || what > 1);
        State least = Collections.min(states(days), Comparator.comparingLong(State::sum));
        return what == 0 ? least.day : least.sum();
    }

    public long accountLow(int account, int days) {
        at(now.accounts, account);
        ahead(days);
        long least = Long.MAX_VALUE;
        for (State s : states(days)) {
            least = Math.min(least, s.accounts.get(account)[0]);
        }
        return least;
    }

    public int shortDay(int envelope, int days) {
        at(now.envelopes, envelope);
        ahead(days);
        for (State s : states(days)) {
            if (s.envelopes.get(envelope)[0] < 0) {
                return s.day;
            }
        }
        return NONE;
    }

    public long poolLow(int days) {
        ahead(days);
        long least = Long.MAX_VALUE;
        for (State s : states(days)) {
            least = Math.min(least, s.pool);
        }
        return least;
    }

    public long fundLack(int fund) {
        long[] f = at(now.funds, fund);
        if (f[2] == NONE || f[2] > now.day + 2000) {
            return GONE;
        }
        State s = now.copy();
        while (s.day < f[2] - 1) {
            s.pass();
        }
        s.untilBills();
        long[] then = s.funds.get(fund);
        return then[1] > then[0] ? then[1] - then[0] : 0;
    }

    public long billsWithin(int days) {
        ahead(days);
        long sum = 0;
        State s = now.copy();
        for (int i = 0; i < days; i++) {
            s.log.clear();
            s.pass();
            for (long[] entry : s.log) {
                sum += entry[0] == 1 || entry[0] == 2 ? entry[3] : 0;
            }
        }
        return sum;
    }

    public long safe(int days) {
        ahead(days);
        return Math.max(0, tightest(days, 1));
    }

    public int enough(int envelope) {
        at(now.envelopes, envelope);
        long sum = 0;
        State s = now.copy();
        for (int i = 0; i < 360; i++) {
            s.log.clear();
            s.pass();
            for (long[] entry : s.log) {
                sum += entry[0] == 1 && s.bills.get((int) entry[2])[0] == envelope ? entry[3] : 0;
            }
        }
        return (int) (sum / 12 + (sum % 12 == 0 ? 0 : 1));
    }

    public double spentPerDay(int envelope) {
        long[] e = at(now.envelopes, envelope);
        return now.day == 0 ? 0.0 : (double) e[5] / (double) now.day;
    }

    public float filled(int fund) {
        long[] f = at(now.funds, fund);
        return f[2] == NONE ? 1.0f : f[0] < 0 ? 0.0f : (float) f[0] / (float) f[1];
    }

    public long cover(int envelope) {
        at(now.envelopes, envelope);
        act();
        now.cover(now.envelopes.get(envelope));
        return now.envelopes.get(envelope)[0];
    }

    public long lacks() {
        long sum = 0;
        for (long[] e : now.envelopes) {
            sum += e[0] < 0 ? -e[0] : 0;
        }
        for (long[] f : now.funds) {
            sum += f[0] < 0 ? -f[0] : 0;
        }
        return sum;
    }

    public int postpone(int bill, int days) {
        long[] b = at(now.bills, bill);
        illegal(days < 1 || days > 60);
        if (b[3] == NONE) {
            return GONE;
        }
        act();
        b[3] += days;
        return (int) b[3];
    }

    public int dueNext(int index) {
        List<long[]> all = new ArrayList<>();
        for (int i = 0; i < now.bills.size(); i++) {
            all.add(new long[] {now.bills.get(i)[3], i});
        }
        for (int i = 0; i < now.funds.size(); i++) {
            all.add(new long[] {now.funds.get(i)[2], 100 + i});
        }
        all.removeIf(row -> row[0] == NONE);
        all.sort(Comparator.comparingLong(row -> row[0]));
        return index < 0 || index >= all.size() ? NONE : (int) all.get(index)[1];
    }

    public int bestDay(int amount, int days) {
        amount(amount);
        illegal(days < 1 || days > 2000);
        List<State> states = states(days);
        long[] sums = new long[days + 1];
        for (int i = 0; i <= days; i++) {
            sums[i] = states.get(i).sum();
        }
        int best = 0;
        long bestLeast = Long.MIN_VALUE;
        for (int d = 1; d <= days; d++) {
            long least = Long.MAX_VALUE;
            for (int i = 0; i <= days; i++) {
                least = Math.min(least, i >= d ? sums[i] - amount : sums[i]);
            }
            if (best == 0 || least > bestLeast) {
                best = d;
                bestLeast = least;
            }
        }
        return now.day + best;
    }

    public int saveSnapshot(int slot) {
        illegal(slot < 0 || slot > 1);
        snapshots[slot] = now.copy();
        return now.day;
    }

    public int restoreSnapshot(int slot) {
        illegal(slot < 0 || slot > 1);
        if (snapshots[slot] == null) {
            return NONE;
        }
        now = snapshots[slot].copy();
        past.clear();
        return now.day;
    }
}
