/** A household budget of accounts, envelopes, sinking funds, bills and shared expenses. */
public final class EnvelopeBudget {
    public static final int NONE = -1;
    public static final int FULL = -2;
    public static final long LACK = -3000000000000L;
    public static final int GONE = -2000000001;
    public static final long NO_VALUE = -4000000000000L;

    private static final int MOST_ACCOUNTS = 4;
    private static final int MOST_ENVELOPES = 10;
    private static final int MOST_FUNDS = 6;
    private static final int MOST_INCOMES = 4;
    private static final int MOST_BILLS = 12;
    private static final int MOST_PEOPLE = 6;
    private static final int MOST_ACTIONS = 8;
    private static final int MOST_ENTRIES = 40;
    private static final int MOST_BYTES = 900;
    private static final int MOST_SNAPSHOTS = 2;

    private static final int MOST_AMOUNT = 1000000;
    private static final int MOST_MODE = 2;
    private static final int MOST_EVERY = 400;
    private static final int MOST_RUN = 400;
    private static final int MOST_POSTPONED = 60;
    private static final int MOST_AHEAD = 2000;
    private static final int LAST_DAY = 20000;
    private static final int DAYS_OF_MONTH = 30;
    private static final int DAYS_OF_YEAR = 360;
    private static final int MONTHS_OF_YEAR = 12;

    private static final int INCOME_CAME = 0;
    private static final int BILL_PAID = 1;
    private static final int FUND_PAID = 2;
    private static final int MONTH_BEGAN = 3;
    private static final int ENTRY_PARTS = 5;

    private static final int MISPLACED = 1;
    private static final int OUT_OF_RANGE = 2;
    private static final int TOO_MANY = 3;
    private static final int ERROR_BASE = -100;

    private static final int WATCH_ALL_ACCOUNTS = 0;
    private static final int WATCH_ACCOUNT = 1;
    private static final int WATCH_ENVELOPE = 2;
    private static final int WATCH_POOL = 3;

    // A due key orders what is paid: the day first, then bills ahead of funds, then their numbers.
    private static final long KEYS_OF_DAY = 1000;
    private static final int FUND_CODE = 100;
    private static final long NO_KEY = 0x7fffffffffffffffL;

    private static final long GREATEST = 0x7fffffffffffffffL;
    private static final long TOO_LARGE = 1000000000;

    private final Book now = new Book();
    private final Reader reader = new Reader();
    private final History history = new History();
    private final Forecast forecast = new Forecast();
    private final Debts debts = new Debts();
    private final Book[] snapshots = new Book[MOST_SNAPSHOTS];

    public EnvelopeBudget() {
    }

    public int append(long bytes) {
        return reader.takeIn(bytes);
    }

    public int load() {
        reader.readText();
        if (reader.error != 0) {
            return ERROR_BASE - reader.errorPosition;
        }
        now.copyFrom(reader.draft);
        history.forgetAll();
        return now.envelopeCount;
    }

    public int loadError() {
        return reader.error;
    }

    public int loadStatement() {
        return reader.errorStatement;
    }

    public int count(int what) throws IllegalArgumentException {
        switch (what) {
            case 0: return now.accountCount;
            case 1: return now.envelopeCount;
            case 2: return now.fundCount;
            case 3: return now.incomeCount;
            case 4: return now.billCount;
            case 5: return now.people;
            case 6: return history.count;
            case 7: return now.log.count;
            default: throw new IllegalArgumentException("no such count");
        }
    }

    public int day() {
        return now.day;
    }

    public long pool() {
        return now.pool;
    }

    public long account(int account) throws IndexOutOfBoundsException {
        checkAccount(account);
        return now.accounts[account];
    }

    public long envelope(int envelope, int what) throws IndexOutOfBoundsException, IllegalArgumentException {
        Envelope one = envelopeOf(envelope);
        switch (what) {
            case 0: return one.balance;
            case 1: return one.monthly;
            case 2: return one.mode;
            case 3: return one.cap;
            case 4: return one.outer;
            case 5: return one.spent;
            case 6: return now.depthOf(one);
            default: throw new IllegalArgumentException("no such number of an envelope");
        }
    }

    public long tree(int envelope) throws IndexOutOfBoundsException {
        long sum = envelopeOf(envelope).balance;
        int within = now.envelopesWithin(envelope);
        for (int i = 0; i < now.envelopeCount; i++) {
            if ((within & (1 << i)) != 0) {
                sum += now.envelopes[i].balance;
            }
        }
        return sum;
    }

    public int inside(int envelope) throws IndexOutOfBoundsException {
        checkEnvelope(envelope);
        return now.envelopesWithin(envelope);
    }

    public long fund(int fund, int what) throws IndexOutOfBoundsException, IllegalArgumentException {
        Fund one = fundOf(fund);
        switch (what) {
            case 0: return one.balance;
            case 1: return one.target;
            case 2: return one.next;
            case 3: return one.again;
            case 4: return one.account;
            case 5: return one.timesPaid;
            default: throw new IllegalArgumentException("no such number of a fund");
        }
    }

    public int income(int income, int what) throws IndexOutOfBoundsException, IllegalArgumentException {
        if (income < 0 || income >= now.incomeCount) {
            throw new IndexOutOfBoundsException("no such income");
        }
        Payment one = now.incomes[income];
        switch (what) {
            case 0: return one.account;
            case 1: return one.amount;
            case 2: return one.next;
            case 3: return one.every;
            default: throw new IllegalArgumentException("no such number of an income");
        }
    }

    public int bill(int bill, int what) throws IndexOutOfBoundsException, IllegalArgumentException {
        Payment one = billOf(bill);
        switch (what) {
            case 0: return one.envelope;
            case 1: return one.account;
            case 2: return one.amount;
            case 3: return one.next;
            case 4: return one.every;
            default: throw new IllegalArgumentException("no such number of a bill");
        }
    }

    public long need(int fund) throws IndexOutOfBoundsException {
        return fundOf(fund).needOn(now.day);
    }

    public boolean isBalanced() {
        return now.sumOfAccounts() + now.nets[0] == now.pool + now.sumOfEnvelopes() + now.sumOfFunds();
    }

    public int run(int days) throws IllegalArgumentException {
        checkRange(days, 1, MOST_RUN);
        if (now.day + days > LAST_DAY) {
            return FULL;
        }
        history.remember(now);
        for (int i = 0; i < days; i++) {
            now.beginDay();
            now.payDueFunds();
        }
        return now.day;
    }

    public long allot() {
        history.remember(now);
        return now.fillAll();
    }

    public long spend(int envelope, int account, int amount)
            throws IndexOutOfBoundsException, IllegalArgumentException {
        Envelope one = envelopeOf(envelope);
        checkAccount(account);
        checkRange(amount, 1, MOST_AMOUNT);
        history.remember(now);
        now.changeAccount(account, -amount);
        now.spendBy(one, amount);
        return one.balance;
    }

    public long shift(int from, int to, int amount) throws IndexOutOfBoundsException, IllegalArgumentException {
        checkPlace(from);
        checkPlace(to);
        if (from == to) {
            throw new IllegalArgumentException("both are the same");
        }
        checkRange(amount, 1, MOST_AMOUNT);
        if (now.moneyIn(from) < amount) {
            return LACK;
        }
        history.remember(now);
        now.putInto(from, -amount);
        now.putInto(to, amount);
        return now.moneyIn(from);
    }

    public long give(int fund, int amount) throws IndexOutOfBoundsException, IllegalArgumentException {
        Fund one = fundOf(fund);
        checkRange(amount, -MOST_AMOUNT, MOST_AMOUNT);
        if (amount == 0) {
            throw new IllegalArgumentException("no amount");
        }
        if (one.next == NONE) {
            return GONE;
        }
        if (amount > 0 ? now.pool < amount : one.balance < -amount) {
            return LACK;
        }
        history.remember(now);
        now.pool -= amount;
        one.balance += amount;
        return one.balance;
    }

    public long transfer(int from, int to, int amount) throws IndexOutOfBoundsException, IllegalArgumentException {
        checkAccount(from);
        checkAccount(to);
        if (from == to) {
            throw new IllegalArgumentException("both are the same");
        }
        checkRange(amount, 1, MOST_AMOUNT);
        history.remember(now);
        now.changeAccount(from, -amount);
        now.changeAccount(to, amount);
        return now.accounts[from];
    }

    public long deposit(int account, int amount) throws IndexOutOfBoundsException, IllegalArgumentException {
        checkAccount(account);
        checkRange(amount, 1, MOST_AMOUNT);
        history.remember(now);
        now.changeAccount(account, amount);
        now.pool += amount;
        return now.accounts[account];
    }

    public int setMonthly(int envelope, int amount) throws IndexOutOfBoundsException, IllegalArgumentException {
        Envelope one = envelopeOf(envelope);
        checkRange(amount, 0, MOST_AMOUNT);
        history.remember(now);
        int previous = one.monthly;
        one.monthly = amount;
        return previous;
    }

    public int setMode(int envelope, int mode, int cap) throws IndexOutOfBoundsException, IllegalArgumentException {
        Envelope one = envelopeOf(envelope);
        checkRange(mode, 0, MOST_MODE);
        checkRange(cap, 0, MOST_AMOUNT);
        history.remember(now);
        int previous = one.mode;
        one.mode = mode;
        one.cap = cap;
        return previous;
    }

    public int setTarget(int fund, int target) throws IndexOutOfBoundsException, IllegalArgumentException {
        Fund one = fundOf(fund);
        checkRange(target, 1, MOST_AMOUNT);
        if (one.next == NONE) {
            return GONE;
        }
        history.remember(now);
        int previous = one.target;
        one.target = target;
        return previous;
    }

    public int addBill(int envelope, int account, int amount, int first, int every)
            throws IndexOutOfBoundsException, IllegalArgumentException {
        checkEnvelope(envelope);
        checkAccount(account);
        checkRange(amount, 1, MOST_AMOUNT);
        checkRange(first, now.day + 1, LAST_DAY);
        checkRange(every, 0, MOST_EVERY);
        if (now.billCount >= MOST_BILLS) {
            return FULL;
        }
        history.remember(now);
        now.describeBill(envelope, account, amount, first, every);
        return now.billCount - 1;
    }

    public int dropBill(int bill) throws IndexOutOfBoundsException {
        checkBill(bill);
        history.remember(now);
        now.removeBill(bill);
        return now.billCount;
    }

    public long pay(int bill) throws IndexOutOfBoundsException {
        Payment one = billOf(bill);
        if (one.next == NONE) {
            return GONE;
        }
        history.remember(now);
        now.payBill(bill);
        return now.moneyIn(one.envelope);
    }

    public long share(int payer, int place, int envelope, int amount, int people)
            throws IndexOutOfBoundsException, IllegalArgumentException {
        checkPerson(payer);
        if (payer == 0) {
            checkAccount(place);
        }
        if ((people & 1) != 0) {
            checkEnvelope(envelope);
        }
        checkRange(amount, 1, MOST_AMOUNT);
        checkRange(people, 1, (1 << now.people) - 1);
        if (payer != 0 && place != NONE) {
            throw new IllegalArgumentException("another one pays from no account");
        }
        history.remember(now);
        now.changeAccount(place, -amount);
        return now.shareOut(payer, envelope, amount, people);
    }

    public long settle(int from, int to, int account, int amount)
            throws IndexOutOfBoundsException, IllegalArgumentException {
        checkPerson(from);
        checkPerson(to);
        if (from == 0 || to == 0) {
            checkAccount(account);
        }
        if (from == to) {
            throw new IllegalArgumentException("both are the same");
        }
        checkRange(amount, 1, MOST_AMOUNT);
        history.remember(now);
        if (from == 0) {
            now.changeAccount(account, -amount);
        }
        if (to == 0) {
            now.changeAccount(account, amount);
        }
        now.nets[from] += amount;
        now.nets[to] -= amount;
        return now.nets[from];
    }

    public long net(int person) throws IndexOutOfBoundsException {
        checkPerson(person);
        return now.nets[person];
    }

    public int transfers() {
        debts.reckon(now.nets);
        return debts.count;
    }

    public long transferPart(int index, int what) throws IllegalArgumentException {
        checkRange(what, 0, 2);
        debts.reckon(now.nets);
        if (index < 0 || index >= debts.count) {
            return NO_VALUE;
        }
        if (what == 0) {
            return debts.payers[index];
        }
        return what == 1 ? debts.receivers[index] : debts.amounts[index];
    }

    public int undo() {
        if (history.count == 0) {
            return NONE;
        }
        history.takeBack(now);
        return history.count;
    }

    public long logPart(int index, int what) throws IllegalArgumentException {
        checkRange(what, 0, ENTRY_PARTS - 1);
        if (index < 0 || index >= now.log.count) {
            return NO_VALUE;
        }
        return now.log.partOf(index, what);
    }

    public long tightest(int days, int what) throws IllegalArgumentException {
        checkRange(days, 0, MOST_AHEAD);
        checkRange(what, 0, 1);
        forecast.watch(now, WATCH_ALL_ACCOUNTS, NONE, days);
        return what == 0 ? now.day + forecast.firstLeast() : forecast.least();
    }

    public long accountLow(int account, int days) throws IndexOutOfBoundsException, IllegalArgumentException {
        checkAccount(account);
        checkRange(days, 0, MOST_AHEAD);
        forecast.watch(now, WATCH_ACCOUNT, account, days);
        return forecast.least();
    }

    public int shortDay(int envelope, int days) throws IndexOutOfBoundsException, IllegalArgumentException {
        checkEnvelope(envelope);
        checkRange(days, 0, MOST_AHEAD);
        forecast.watch(now, WATCH_ENVELOPE, envelope, days);
        int ahead = forecast.firstNegative();
        return ahead == NONE ? NONE : now.day + ahead;
    }

    public long poolLow(int days) throws IllegalArgumentException {
        checkRange(days, 0, MOST_AHEAD);
        forecast.watch(now, WATCH_POOL, NONE, days);
        return forecast.least();
    }

    public long fundLack(int fund) throws IndexOutOfBoundsException {
        Fund one = fundOf(fund);
        if (one.next == NONE || one.next - now.day > MOST_AHEAD) {
            return GONE;
        }
        return forecast.lackOnPayingDay(now, fund, one.next - now.day);
    }

    public long billsWithin(int days) throws IllegalArgumentException {
        checkRange(days, 0, MOST_AHEAD);
        int last = now.day + days;
        long sum = 0;
        for (int i = 0; i < now.billCount; i++) {
            sum += now.bills[i].sumUntil(last);
        }
        for (int i = 0; i < now.fundCount; i++) {
            sum += now.funds[i].sumUntil(last);
        }
        return sum;
    }

    public long safe(int days) throws IllegalArgumentException {
        checkRange(days, 0, MOST_AHEAD);
        forecast.watch(now, WATCH_ALL_ACCOUNTS, NONE, days);
        return Math.max(0, forecast.least());
    }

    public int enough(int envelope) throws IndexOutOfBoundsException {
        checkEnvelope(envelope);
        long sum = 0;
        for (int i = 0; i < now.billCount; i++) {
            if (now.bills[i].envelope == envelope) {
                sum += now.bills[i].sumUntil(now.day + DAYS_OF_YEAR);
            }
        }
        return (int) dividedUp(sum, MONTHS_OF_YEAR);
    }

    public double spentPerDay(int envelope) throws IndexOutOfBoundsException {
        Envelope one = envelopeOf(envelope);
        return now.day == 0 ? 0.0 : (double) one.spent / (double) now.day;
    }

    public float filled(int fund) throws IndexOutOfBoundsException {
        Fund one = fundOf(fund);
        if (one.next == NONE) {
            return 1.0f;
        }
        return one.balance < 0 ? 0.0f : (float) one.balance / (float) one.target;
    }

    public long cover(int envelope) throws IndexOutOfBoundsException {
        Envelope one = envelopeOf(envelope);
        history.remember(now);
        now.coverLackOf(one);
        return one.balance;
    }

    public long lacks() {
        long sum = 0;
        for (int i = 0; i < now.envelopeCount; i++) {
            sum += Math.max(0, -now.envelopes[i].balance);
        }
        for (int i = 0; i < now.fundCount; i++) {
            sum += Math.max(0, -now.funds[i].balance);
        }
        return sum;
    }

    public int postpone(int bill, int days) throws IndexOutOfBoundsException, IllegalArgumentException {
        Payment one = billOf(bill);
        checkRange(days, 1, MOST_POSTPONED);
        if (one.next == NONE) {
            return GONE;
        }
        history.remember(now);
        one.next += days;
        return one.next;
    }

    public int dueNext(int index) {
        if (index < 0 || index >= MOST_BILLS + MOST_FUNDS) {
            return NONE;
        }
        long key = NONE;
        for (int i = 0; i <= index && key != NO_KEY; i++) {
            key = Math.min(now.billKeyAbove(key), now.fundKeyAbove(key));
        }
        return key == NO_KEY ? NONE : (int) (key % KEYS_OF_DAY);
    }

    public int bestDay(int amount, int days) throws IllegalArgumentException {
        checkRange(amount, 1, MOST_AMOUNT);
        checkRange(days, 1, MOST_AHEAD);
        forecast.watch(now, WATCH_ALL_ACCOUNTS, NONE, days);
        return now.day + forecast.bestToSpend(amount);
    }

    public int saveSnapshot(int slot) throws IllegalArgumentException {
        checkSlot(slot);
        if (snapshots[slot] == null) {
            snapshots[slot] = new Book();
        }
        snapshots[slot].copyFrom(now);
        return now.day;
    }

    public int restoreSnapshot(int slot) throws IllegalArgumentException {
        checkSlot(slot);
        Book saved = snapshots[slot];
        if (saved == null) {
            return NONE;
        }
        now.copyFrom(saved);
        history.forgetAll();
        return now.day;
    }

    private void checkAccount(int account) {
        if (account < 0 || account >= now.accountCount) {
            throw new IndexOutOfBoundsException("no such account");
        }
    }

    private void checkEnvelope(int envelope) {
        if (envelope < 0 || envelope >= now.envelopeCount) {
            throw new IndexOutOfBoundsException("no such envelope");
        }
    }

    private void checkPlace(int envelopeOrPool) {
        if (envelopeOrPool != NONE) {
            checkEnvelope(envelopeOrPool);
        }
    }

    private void checkBill(int bill) {
        if (bill < 0 || bill >= now.billCount) {
            throw new IndexOutOfBoundsException("no such bill");
        }
    }

    private void checkPerson(int person) {
        if (person < 0 || person >= now.people) {
            throw new IndexOutOfBoundsException("no such person");
        }
    }

    private Envelope envelopeOf(int envelope) {
        checkEnvelope(envelope);
        return now.envelopes[envelope];
    }

    private Fund fundOf(int fund) {
        if (fund < 0 || fund >= now.fundCount) {
            throw new IndexOutOfBoundsException("no such fund");
        }
        return now.funds[fund];
    }

    private Payment billOf(int bill) {
        checkBill(bill);
        return now.bills[bill];
    }

    private static void checkSlot(int slot) {
        checkRange(slot, 0, MOST_SNAPSHOTS - 1);
    }

    private static void checkRange(int value, int least, int most) {
        if (value < least || value > most) {
            throw new IllegalArgumentException("out of range");
        }
    }

    /** What someone who has this much gives where that much is needed. */
    private static long given(long has, long needed) {
        return Math.max(0, Math.min(has, needed));
    }

    private static long dividedUp(long amount, long parts) {
        return (amount + parts - 1) / Math.max(1, parts);
    }

    /** The day that follows a day on which something came, was due or paid. */
    private static int following(int day, int every) {
        return every > 0 ? day + every : NONE;
    }

    /** How often something happens until a day, this one included. */
    private static long timesUntil(int last, int next, int every) {
        if (next == NONE || next > last) {
            return 0;
        }
        return every > 0 ? (last - next) / every + 1 : 1;
    }

    private static final class Envelope {
        long balance;
        long spent;
        int monthly;
        int mode;
        int cap;
        int outer = NONE;

        void describe(int newMonthly, int newMode, int newCap, int newOuter) {
            balance = 0;
            spent = 0;
            monthly = newMonthly;
            mode = newMode;
            cap = newCap;
            outer = newOuter;
        }

        void copyFrom(Envelope other) {
            balance = other.balance;
            spent = other.spent;
            monthly = other.monthly;
            mode = other.mode;
            cap = other.cap;
            outer = other.outer;
        }

        /** What the rollover takes out of it. */
        long rolledOut() {
            if (balance <= 0 || mode == 1) {
                return 0;
            }
            return mode == 0 ? balance : Math.max(0, balance - cap);
        }
    }

    private static final class Fund {
        long balance;
        int target = 1;
        int next = NONE;
        int again;
        int account;
        int timesPaid;

        void describe(int newTarget, int due, int newAgain, int newAccount) {
            balance = 0;
            target = newTarget;
            next = due;
            again = newAgain;
            account = newAccount;
            timesPaid = 0;
        }

        void copyFrom(Fund other) {
            balance = other.balance;
            target = other.target;
            next = other.next;
            again = other.again;
            account = other.account;
            timesPaid = other.timesPaid;
        }

        long needOn(int day) {
            if (next == NONE || balance >= target) {
                return 0;
            }
            long months = Math.max(1, dividedUp(next - day, DAYS_OF_MONTH));
            return dividedUp(target - balance, months);
        }

        long sumUntil(int last) {
            return target * timesUntil(last, next, again);
        }
    }

    /** An income, or a bill (which alone has an envelope). */
    private static final class Payment {
        int envelope = NONE;
        int account;
        int amount;
        int next = NONE;
        int every;

        void describe(int newEnvelope, int newAccount, int newAmount, int first, int newEvery) {
            envelope = newEnvelope;
            account = newAccount;
            amount = newAmount;
            next = first;
            every = newEvery;
        }

        void copyFrom(Payment other) {
            describe(other.envelope, other.account, other.amount, other.next, other.every);
        }

        long sumUntil(int last) {
            return amount * timesUntil(last, next, every);
        }
    }

    /** The latest entries, in a ring, so that an entry more costs no shifting. */
    private static final class Log {
        final long[] parts = new long[MOST_ENTRIES * ENTRY_PARTS];
        int count;
        int latest;

        void forgetAll() {
            count = 0;
            latest = 0;
        }

        void copyFrom(Log other) {
            System.arraycopy(other.parts, 0, parts, 0, MOST_ENTRIES * ENTRY_PARTS);
            count = other.count;
            latest = other.latest;
        }

        void enter(int kind, int day, int number, long amount, long uncovered) {
            latest = (latest + 1) % MOST_ENTRIES;
            count = Math.min(count + 1, MOST_ENTRIES);
            int start = latest * ENTRY_PARTS;
            parts[start] = kind;
            parts[start + 1] = day;
            parts[start + 2] = number;
            parts[start + 3] = amount;
            parts[start + 4] = uncovered;
        }

        long partOf(int index, int what) {
            int entry = Math.floorMod(latest - index, MOST_ENTRIES);
            return parts[entry * ENTRY_PARTS + what];
        }
    }

    /** All that actions change, and so all that is copied to take them back, to foresee and to save. */
    private static final class Book {
        int day;
        long pool;
        int people = 1;
        int accountCount;
        int envelopeCount;
        int fundCount;
        int incomeCount;
        int billCount;
        final long[] accounts = new long[MOST_ACCOUNTS];
        final long[] nets = new long[MOST_PEOPLE];
        final Envelope[] envelopes = new Envelope[MOST_ENVELOPES];
        final Fund[] funds = new Fund[MOST_FUNDS];
        final Payment[] incomes = new Payment[MOST_INCOMES];
        final Payment[] bills = new Payment[MOST_BILLS];
        final Log log = new Log();

        Book() {
            for (int i = 0; i < MOST_ENVELOPES; i++) {
                envelopes[i] = new Envelope();
            }
            for (int i = 0; i < MOST_FUNDS; i++) {
                funds[i] = new Fund();
            }
            for (int i = 0; i < MOST_INCOMES; i++) {
                incomes[i] = new Payment();
            }
            for (int i = 0; i < MOST_BILLS; i++) {
                bills[i] = new Payment();
            }
        }

        void clear() {
            day = 0;
            pool = 0;
            people = 1;
            accountCount = 0;
            envelopeCount = 0;
            fundCount = 0;
            incomeCount = 0;
            billCount = 0;
            for (int i = 0; i < MOST_PEOPLE; i++) {
                nets[i] = 0;
            }
            log.forgetAll();
        }

        void copyFrom(Book other) {
            day = other.day;
            pool = other.pool;
            people = other.people;
            accountCount = other.accountCount;
            envelopeCount = other.envelopeCount;
            fundCount = other.fundCount;
            incomeCount = other.incomeCount;
            billCount = other.billCount;
            System.arraycopy(other.accounts, 0, accounts, 0, MOST_ACCOUNTS);
            System.arraycopy(other.nets, 0, nets, 0, MOST_PEOPLE);
            for (int i = 0; i < envelopeCount; i++) {
                envelopes[i].copyFrom(other.envelopes[i]);
            }
            for (int i = 0; i < fundCount; i++) {
                funds[i].copyFrom(other.funds[i]);
            }
            for (int i = 0; i < incomeCount; i++) {
                incomes[i].copyFrom(other.incomes[i]);
            }
            for (int i = 0; i < billCount; i++) {
                bills[i].copyFrom(other.bills[i]);
            }
            log.copyFrom(other.log);
        }

        void describeAccount(int start) {
            if (accountCount < MOST_ACCOUNTS) {
                accounts[accountCount] = start;
                accountCount++;
                pool += start;
            }
        }

        void describeEnvelope(int monthly, int mode, int cap, int outer) {
            if (envelopeCount < MOST_ENVELOPES) {
                envelopes[envelopeCount].describe(monthly, mode, cap, outer);
                envelopeCount++;
            }
        }

        void describeFund(int target, int due, int again, int account) {
            if (fundCount < MOST_FUNDS) {
                funds[fundCount].describe(target, due, again, account);
                fundCount++;
            }
        }

        void describeIncome(int account, int amount, int first, int every) {
            if (incomeCount < MOST_INCOMES) {
                incomes[incomeCount].describe(NONE, account, amount, first, every);
                incomeCount++;
            }
        }

        void describeBill(int envelope, int account, int amount, int first, int every) {
            if (billCount < MOST_BILLS) {
                bills[billCount].describe(envelope, account, amount, first, every);
                billCount++;
            }
        }

        void removeBill(int bill) {
            for (int i = Math.max(0, bill); i < billCount - 1; i++) {
                bills[i].copyFrom(bills[i + 1]);
            }
            billCount--;
        }

        boolean hasEnvelope(int envelope) {
            return envelope >= 0 && envelope < envelopeCount;
        }

        /** An envelope lies in ones that were described before it alone, so every chain ends. */
        int depthOf(Envelope one) {
            int depth = 0;
            int outer = one.outer;
            while (depth < MOST_ENVELOPES && hasEnvelope(outer)) {
                depth++;
                outer = envelopes[outer].outer;
            }
            return depth;
        }

        /** The sum of 2^k over the envelopes k that lie in one, found in one pass as outer ones come first. */
        int envelopesWithin(int envelope) {
            int within = 0;
            for (int i = 0; i < envelopeCount; i++) {
                int outer = envelopes[i].outer;
                if (outer != NONE && (outer == envelope || (within & (1 << outer)) != 0)) {
                    within |= 1 << i;
                }
            }
            return within;
        }

        long sumOfAccounts() {
            long sum = 0;
            for (int i = 0; i < accountCount; i++) {
                sum += accounts[i];
            }
            return sum;
        }

        long sumOfEnvelopes() {
            long sum = 0;
            for (int i = 0; i < envelopeCount; i++) {
                sum += envelopes[i].balance;
            }
            return sum;
        }

        long sumOfFunds() {
            long sum = 0;
            for (int i = 0; i < fundCount; i++) {
                sum += funds[i].balance;
            }
            return sum;
        }

        void changeAccount(int account, long amount) {
            if (account >= 0 && account < accountCount) {
                accounts[account] += amount;
            }
        }

        /** The balance of an envelope, or the pool for NONE. */
        long moneyIn(int place) {
            return hasEnvelope(place) ? envelopes[place].balance : pool;
        }

        void putInto(int place, long amount) {
            if (hasEnvelope(place)) {
                envelopes[place].balance += amount;
            } else {
                pool += amount;
            }
        }

        void spendBy(Envelope one, long amount) {
            one.balance -= amount;
            one.spent += amount;
            coverLackOf(one);
        }

        void coverLackOf(Envelope one) {
            long lack = Math.max(0, -one.balance);
            one.balance += lack;
            int outer = one.outer;
            for (int i = 0; i < MOST_ENVELOPES && outer >= 0 && outer < envelopeCount; i++) {
                Envelope giver = envelopes[outer];
                long part = given(giver.balance, lack);
                giver.balance -= part;
                lack -= part;
                outer = giver.outer;
            }
            long part = given(pool, lack);
            pool -= part;
            one.balance -= lack - part;
        }

        /** A new day but for the funds that pay on it: a forecast looks at them ahead of paying. */
        void beginDay() {
            day++;
            for (int i = 0; i < incomeCount; i++) {
                if (incomes[i].next == day) {
                    receiveIncome(i);
                }
            }
            if (day % DAYS_OF_MONTH == 0) {
                beginMonth();
            }
            for (int i = 0; i < billCount; i++) {
                if (bills[i].next == day) {
                    payBill(i);
                }
            }
        }

        void payDueFunds() {
            for (int i = 0; i < fundCount; i++) {
                if (funds[i].next == day) {
                    payFund(i);
                }
            }
        }

        void receiveIncome(int income) {
            Payment one = incomes[income];
            changeAccount(one.account, one.amount);
            pool += one.amount;
            one.next = following(one.next, one.every);
            log.enter(INCOME_CAME, day, income, one.amount, 0);
        }

        void beginMonth() {
            for (int i = 0; i < envelopeCount; i++) {
                long part = envelopes[i].rolledOut();
                envelopes[i].balance -= part;
                pool += part;
            }
            log.enter(MONTH_BEGAN, day, NONE, fillAll(), 0);
        }

        /** An allotment; returns how much it took from the pool. */
        long fillAll() {
            long before = pool;
            long key = fundKeyAbove(NONE);
            for (int i = 0; i < fundCount && key != NO_KEY; i++) {
                int fund = (int) (key % KEYS_OF_DAY) - FUND_CODE;
                if (fund >= 0 && fund < fundCount) {
                    long part = given(pool, funds[fund].needOn(day));
                    funds[fund].balance += part;
                    pool -= part;
                }
                key = fundKeyAbove(key);
            }
            for (int i = 0; i < envelopeCount; i++) {
                long part = given(pool, envelopes[i].monthly);
                envelopes[i].balance += part;
                pool -= part;
            }
            return before - pool;
        }

        /** The least due key of a bill above another key; NO_KEY if there is none. */
        long billKeyAbove(long above) {
            long least = NO_KEY;
            for (int i = 0; i < billCount; i++) {
                long key = bills[i].next * KEYS_OF_DAY + i;
                if (bills[i].next != NONE && key > above && key < least) {
                    least = key;
                }
            }
            return least;
        }

        long fundKeyAbove(long above) {
            long least = NO_KEY;
            for (int i = 0; i < fundCount; i++) {
                long key = funds[i].next * KEYS_OF_DAY + FUND_CODE + i;
                if (funds[i].next != NONE && key > above && key < least) {
                    least = key;
                }
            }
            return least;
        }

        void payBill(int bill) {
            Payment one = bills[bill];
            changeAccount(one.account, -one.amount);
            if (one.envelope >= 0 && one.envelope < envelopeCount) {
                Envelope payer = envelopes[one.envelope];
                spendBy(payer, one.amount);
                log.enter(BILL_PAID, day, bill, one.amount, Math.max(0, -payer.balance));
            }
            one.next = following(one.next, one.every);
        }

        void payFund(int fund) {
            Fund one = funds[fund];
            changeAccount(one.account, -one.target);
            one.balance -= one.target;
            long part = given(pool, -one.balance);
            pool -= part;
            one.balance += part;
            log.enter(FUND_PAID, day, fund, one.target, Math.max(0, -one.balance));
            one.timesPaid++;
            one.next = following(one.next, one.again);
            if (one.next == NONE) {
                pool += one.balance;
                one.balance = 0;
            }
        }

        /** Books an expense that is shared; returns the part of person 0. */
        long shareOut(int payer, int envelope, int amount, int sharers) {
            int heads = Math.max(1, Integer.bitCount(sharers));
            int rest = amount % heads;
            int ownPart = 0;
            for (int i = 0; i < people; i++) {
                if ((sharers & (1 << i)) != 0) {
                    int part = amount / heads + (rest > 0 ? 1 : 0);
                    rest--;
                    nets[i] -= part;
                    ownPart = i == 0 ? part : ownPart;
                }
            }
            if (payer >= 0 && payer < people) {
                nets[payer] += amount;
            }
            if (ownPart > 0 && hasEnvelope(envelope)) {
                spendBy(envelopes[envelope], ownPart);
            }
            return ownPart;
        }

        long watched(int watch, int number) {
            if (watch == WATCH_ACCOUNT && number >= 0 && number < accountCount) {
                return accounts[number];
            }
            if (watch == WATCH_ENVELOPE && number >= 0 && number < envelopeCount) {
                return envelopes[number].balance;
            }
            return watch == WATCH_POOL ? pool : sumOfAccounts();
        }
    }

    /** The actions that can be taken back: the books ahead of each of them, in a ring. */
    private static final class History {
        final Book[] books = new Book[MOST_ACTIONS];
        int count;
        int end;

        History() {
            for (int i = 0; i < MOST_ACTIONS; i++) {
                books[i] = new Book();
            }
        }

        void forgetAll() {
            count = 0;
        }

        void remember(Book now) {
            books[end].copyFrom(now);
            end = (end + 1) % MOST_ACTIONS;
            count = Math.min(count + 1, MOST_ACTIONS);
        }

        void takeBack(Book now) {
            end = (end + MOST_ACTIONS - 1) % MOST_ACTIONS;
            now.copyFrom(books[end]);
            count--;
        }
    }

    /** The transfers that settle all debts. */
    private static final class Debts {
        final long[] open = new long[MOST_PEOPLE];
        final int[] payers = new int[MOST_PEOPLE];
        final int[] receivers = new int[MOST_PEOPLE];
        final long[] amounts = new long[MOST_PEOPLE];
        int count;

        /** Each transfer settles one person at least, so there are fewer than persons. */
        void reckon(long[] nets) {
            System.arraycopy(nets, 0, open, 0, MOST_PEOPLE);
            count = 0;
            for (int i = 0; i < MOST_PEOPLE; i++) {
                int payer = 0;
                int receiver = 0;
                for (int person = 1; person < MOST_PEOPLE; person++) {
                    payer = open[person] < open[payer] ? person : payer;
                    receiver = open[person] > open[receiver] ? person : receiver;
                }
                long amount = given(open[receiver], -open[payer]);
                if (amount == 0) {
                    return;
                }
                open[payer] += amount;
                open[receiver] -= amount;
                payers[i] = payer;
                receivers[i] = receiver;
                amounts[i] = amount;
                count++;
            }
        }
    }

    /** Lets days pass on a copy, and keeps a number behind each day. */
    private static final class Forecast {
        final Book trial = new Book();
        final long[] behind = new long[MOST_AHEAD + 1];
        final long[] leastUntil = new long[MOST_AHEAD + 1];
        int last;

        void watch(Book now, int what, int number, int days) {
            trial.copyFrom(now);
            last = Math.max(0, Math.min(days, MOST_AHEAD));
            behind[0] = trial.watched(what, number);
            leastUntil[0] = behind[0];
            for (int i = 1; i <= last; i++) {
                trial.beginDay();
                trial.payDueFunds();
                behind[i] = trial.watched(what, number);
                leastUntil[i] = Math.min(leastUntil[i - 1], behind[i]);
            }
        }

        long least() {
            return leastUntil[last];
        }

        int firstLeast() {
            int first = 0;
            for (int i = 1; i <= last; i++) {
                first = behind[i] < behind[first] ? i : first;
            }
            return first;
        }

        int firstNegative() {
            for (int i = 0; i <= last; i++) {
                if (behind[i] < 0) {
                    return i;
                }
            }
            return NONE;
        }

        /** What is spent on a day is missing behind it and behind all later days, but behind none before. */
        int bestToSpend(long amount) {
            int best = 1;
            long bestLeast = -GREATEST;
            long leastFrom = GREATEST;
            for (int i = last; i >= 1; i--) {
                leastFrom = Math.min(leastFrom, behind[i]);
                long least = Math.min(leastUntil[i - 1], leastFrom - amount);
                if (least >= bestLeast) {
                    bestLeast = least;
                    best = i;
                }
            }
            return best;
        }

        long lackOnPayingDay(Book now, int fund, int ahead) {
            if (fund < 0 || fund >= now.fundCount) {
                return 0;
            }
            trial.copyFrom(now);
            for (int i = 1; i < ahead; i++) {
                trial.beginDay();
                trial.payDueFunds();
            }
            trial.beginDay();
            Fund one = trial.funds[fund];
            return Math.max(0, one.target - one.balance);
        }
    }

    /** The input buffer and the reading of a description, which ends at its first error. */
    private static final class Reader {
        final char[] text = new char[MOST_BYTES];
        final Book draft = new Book();
        int length;
        int position;
        int error;
        int errorPosition;
        int errorStatement = NONE;
        int statement;

        int takeIn(long bytes) {
            int more = 0;
            for (int shift = 56; shift >= 0; shift -= 8) {
                more += ((bytes >>> shift) & 255) != 0 ? 1 : 0;
            }
            if (length + more > MOST_BYTES) {
                return FULL;
            }
            for (int shift = 56; shift >= 0; shift -= 8) {
                char one = (char) ((bytes >>> shift) & 255);
                if (one != 0 && length < MOST_BYTES) {
                    text[length] = one;
                    length++;
                }
            }
            return length;
        }

        /** Reads the text into the draft and empties the buffer. */
        void readText() {
            draft.clear();
            position = 0;
            error = 0;
            errorStatement = NONE;
            boolean more = true;
            for (int i = 0; more && i <= MOST_BYTES; i++) {
                statement = i;
                readStatement();
                more = readSemicolon();
            }
            length = 0;
        }

        void fail(int kind, int at) {
            if (error == 0) {
                error = kind;
                errorPosition = at;
                errorStatement = statement;
            }
        }

        void readStatement() {
            int start = readWord();
            if (isWord(start, "account")) {
                readAccount(start);
            } else if (isWord(start, "envelope")) {
                readEnvelope(start);
            } else if (isWord(start, "fund")) {
                readFund(start);
            } else if (isWord(start, "income")) {
                readIncome(start);
            } else if (isWord(start, "bill")) {
                readBill(start);
            } else if (isWord(start, "people")) {
                readPeople();
            } else {
                fail(MISPLACED, start);
            }
        }

        /** Tells whether another statement follows. */
        boolean readSemicolon() {
            skipSpaces();
            if (error != 0 || position >= length) {
                return false;
            }
            if (text[position] != ';') {
                fail(MISPLACED, position);
                return false;
            }
            position++;
            return true;
        }

        void readAccount(int start) {
            checkRoom(draft.accountCount, MOST_ACCOUNTS, start);
            int balance = readNumber(0, MOST_AMOUNT);
            if (error == 0) {
                draft.describeAccount(balance);
            }
        }

        void readEnvelope(int start) {
            checkRoom(draft.envelopeCount, MOST_ENVELOPES, start);
            int monthly = readNumber(0, MOST_AMOUNT);
            int mode = readNumber(0, MOST_MODE);
            int cap = readNumber(0, MOST_AMOUNT);
            int outer = readOuter();
            if (error == 0) {
                draft.describeEnvelope(monthly, mode, cap, outer);
            }
        }

        /** Reads [ in ENVELOPE ]; NONE without it. */
        int readOuter() {
            int start = readWord();
            if (error != 0 || start == position) {
                return NONE;
            }
            if (!isWord(start, "in")) {
                fail(MISPLACED, start);
            }
            return readNumber(0, draft.envelopeCount - 1);
        }

        void readFund(int start) {
            checkRoom(draft.fundCount, MOST_FUNDS, start);
            int target = readNumber(1, MOST_AMOUNT);
            int due = readNumber(1, LAST_DAY);
            int again = readNumber(0, MOST_EVERY);
            int account = readNumber(0, draft.accountCount - 1);
            if (error == 0) {
                draft.describeFund(target, due, again, account);
            }
        }

        void readIncome(int start) {
            checkRoom(draft.incomeCount, MOST_INCOMES, start);
            int account = readNumber(0, draft.accountCount - 1);
            int amount = readNumber(1, MOST_AMOUNT);
            int first = readNumber(1, LAST_DAY);
            int every = readNumber(0, MOST_EVERY);
            if (error == 0) {
                draft.describeIncome(account, amount, first, every);
            }
        }

        void readBill(int start) {
            checkRoom(draft.billCount, MOST_BILLS, start);
            int envelope = readNumber(0, draft.envelopeCount - 1);
            int account = readNumber(0, draft.accountCount - 1);
            int amount = readNumber(1, MOST_AMOUNT);
            int first = readNumber(1, LAST_DAY);
            int every = readNumber(0, MOST_EVERY);
            if (error == 0) {
                draft.describeBill(envelope, account, amount, first, every);
            }
        }

        void readPeople() {
            int persons = readNumber(1, MOST_PEOPLE);
            if (error == 0) {
                draft.people = persons;
            }
        }

        void checkRoom(int count, int most, int start) {
            if (count >= most) {
                fail(TOO_MANY, start);
            }
        }

        void skipSpaces() {
            while (position < length && position < MOST_BYTES && text[position] == ' ') {
                position++;
            }
        }

        /** Returns where the word begins; it is empty if no letter stands there. */
        int readWord() {
            skipSpaces();
            int start = position;
            while (position < length && position < MOST_BYTES && text[position] >= 'a' && text[position] <= 'z') {
                position++;
            }
            return start;
        }

        /** Tells whether the word that was just read is this one. */
        boolean isWord(int start, String word) {
            if (position - start != word.length()) {
                return false;
            }
            for (int i = 0; i < word.length() && start + i < MOST_BYTES; i++) {
                if (text[start + i] != word.charAt(i)) {
                    return false;
                }
            }
            return true;
        }

        /** Returns NONE, too, once an error was found. */
        int readNumber(int least, int most) {
            if (error != 0) {
                return NONE;
            }
            skipSpaces();
            int start = position;
            long number = 0;
            while (position < length && position < MOST_BYTES && text[position] >= '0' && text[position] <= '9') {
                // Digits without end must not wrap around into the range.
                number = Math.min(number * 10 + (text[position] - '0'), TOO_LARGE);
                position++;
            }
            if (position == start) {
                fail(MISPLACED, start);
                return NONE;
            }
            if (number < least || number > most) {
                fail(OUT_OF_RANGE, start);
                return NONE;
            }
            return (int) number;
        }
    }
}
