/** A register of leases. The promises that it keeps are numbered in ../shared/DOC.md. */
public final class LeaseBook {
    public static final int NONE = -1;

    private static final int MOST_LEASES = 8;
    private static final int MOST_SUBLEASES = 12;
    private static final int MOST_SAVED = 6;
    private static final int MOST_CHARACTERS = 60;
    private static final int MOST_MONEY = 100000;
    private static final int MOST_PERIODS = 60;
    private static final int MOST_RATE = 2000;
    private static final int MOST_IMPAIRED = 1000000;
    private static final int MOST_LIABILITY = 10000000;
    private static final int LAST_PERIOD = 2000;
    private static final int THOUSAND = 1000;
    private static final int RATE_UNIT = 10000;

    // The kinds of movements, by the document's numbers.
    private static final int OPENED = 0;
    private static final int INTEREST = 1;
    private static final int PAID = 2;
    private static final int MEASURED = 3;
    private static final int ENDED = 4;
    private static final int ASSET_OPENED = 5;
    private static final int WRITTEN_OFF = 6;
    private static final int ASSET_MEASURED = 7;
    private static final int ASSET_ENDED = 8;
    private static final int SUBLET = 9;
    private static final int IMPAIRED = 10;
    private static final int BEGUN = 11;
    private static final int RECEIPT_INTEREST = 12;
    private static final int HAD = 13;
    private static final int CUT_OFF = 14;
    private static final int COSTS = 15;
    private static final int FEES = 16;
    private static final int KINDS = 17;

    // Properties of leases and subleases that are summed up, by the document's numbers.
    private static final int LIABILITY = 3;
    private static final int ASSET = 4;
    private static final int RECEIVABLES = 5;
    private static final int RUNNING_SUBLEASES = 8;
    private static final int TAKEN_BY_SUBLEASE = 1;
    private static final int RECEIVABLE = 5;

    // The highest `what` of each call that has one.
    private static final int LAST_LEASE_PROPERTY = 8;
    private static final int LAST_SUBLEASE_PROPERTY = 5;
    private static final int LAST_NUMBER = 10;
    private static final int LAST_OF_PLAN = 3;
    private static final int LAST_OF_MEASURED = 2;

    // The numbers of a lease as a text, in their order.
    private static final int PAYMENT_PART = 0;
    private static final int PERIODS_PART = 1;
    private static final int RATE_PART = 2;
    private static final int COST_PART = 3;
    private static final int PARTS = 4;
    private static final int[] LEAST_OF_PART = {0, 1, 0, 0};
    private static final int[] MOST_OF_PART = {100000, 60, 2000, 100000};

    private static final long FIRST_HASH = 2467L;
    private static final int ONES_EXPONENT = 1023;
    private static final int LAST_EXPONENT = 2046;
    private static final int FRACTION_BITS = 52;
    private static final long FRACTION_UNIT = 1L << FRACTION_BITS;

    private final State now = new State();
    private final History history = new History();
    private final InputText text = new InputText();
    private final LeaseReader reader = new LeaseReader();

    public LeaseBook() {
    }

    // ---- leases

    public int open(int payment, int periods, int rate, int cost)
            throws IllegalArgumentException, IllegalStateException {
        demandArguments(isMoney(payment) && isPeriods(periods) && isRate(rate) && isMoney(cost));
        demandState(now.leaseCount < MOST_LEASES);
        history.save(now);
        return now.addLease(payment, periods, rate, cost);
    }

    public int term(int lease, int periods, int rate)
            throws IndexOutOfBoundsException, IllegalArgumentException, IllegalStateException {
        Lease changed = demandLease(lease);
        demandArguments(isPeriods(periods) && isRate(rate));
        demandState(changed.runs());
        history.save(now);
        changed.measure(changed.payment, periods, rate);
        now.cutOff(lease, changed);
        return changed.liability;
    }

    public int rent(int lease, int payment)
            throws IndexOutOfBoundsException, IllegalArgumentException, IllegalStateException {
        Lease changed = demandLease(lease);
        demandArguments(isMoney(payment));
        demandState(changed.runs());
        history.save(now);
        changed.measure(payment, changed.periods, changed.rate);
        return changed.liability;
    }

    public int endPart(int lease, int thousandths, int fee)
            throws IndexOutOfBoundsException, IllegalArgumentException, IllegalStateException {
        Lease changed = demandLease(lease);
        demandArguments(isThousandths(thousandths) && isMoney(fee));
        demandState(changed.runs() && now.runningOf(lease) == 0);
        history.save(now);
        return changed.endThousandths(thousandths, fee);
    }

    public int impair(int lease, int amount)
            throws IndexOutOfBoundsException, IllegalArgumentException, IllegalStateException {
        Lease changed = demandLease(lease);
        demandArguments(isWithin(amount, 1, MOST_IMPAIRED));
        demandState(changed.asset >= amount);
        history.save(now);
        changed.impairBy(amount);
        return changed.asset;
    }

    public int sublet(int lease, int thousandths, int receipt, int periods)
            throws IndexOutOfBoundsException, IllegalArgumentException, IllegalStateException {
        Lease head = demandLease(lease);
        demandArguments(isThousandths(thousandths) && isMoney(receipt) && isPeriods(periods));
        demandState(now.canSublet(lease, thousandths, periods));
        history.save(now);
        return now.addSublease(lease, head, thousandths, receipt, periods);
    }

    public int pass(int periods) throws IllegalArgumentException, IllegalStateException {
        demandArguments(isPeriods(periods));
        demandState(now.period + periods <= LAST_PERIOD);
        history.save(now);
        now.passPeriods(periods);
        return now.period;
    }

    // ---- texts

    public int append(int code) throws IllegalArgumentException, IllegalStateException {
        demandArguments(isWithin(code, 33, 126));
        demandState(text.length < MOST_CHARACTERS);
        text.add(code);
        return text.length;
    }

    public int clearBuffer() {
        int length = text.length;
        text.length = 0;
        return length;
    }

    public int firstError() {
        return reader.readAll(text);
    }

    public int openAll() throws IllegalArgumentException, IllegalStateException {
        boolean whole = reader.readAll(text) == text.length && reader.isComplete();
        demandArguments(whole);
        demandState(now.leaseCount + text.countOf(';') + 1 <= MOST_LEASES);
        history.save(now);
        openTexts();
        text.length = 0;
        return now.leaseCount;
    }

    public int undo() throws IllegalStateException {
        demandState(history.size > 0);
        history.restore(now);
        return history.size;
    }

    // ---- looks; nothing is changed

    public int lease(int lease, int what) throws IndexOutOfBoundsException, IllegalArgumentException {
        demandLease(lease);
        demandArguments(isWithin(what, 0, LAST_LEASE_PROPERTY));
        return now.leaseProperty(lease, what);
    }

    public int sublease(int sublease, int what) throws IndexOutOfBoundsException, IllegalArgumentException {
        demandIndex(sublease >= 0 && sublease < now.subleaseCount);
        demandArguments(isWithin(what, 0, LAST_SUBLEASE_PROPERTY));
        return now.subleaseProperty(sublease, what);
    }

    public int movement(int lease, int kind) throws IndexOutOfBoundsException, IllegalArgumentException {
        Lease found = demandLease(lease);
        demandArguments(isWithin(kind, 0, KINDS - 1));
        return found.moved(kind);
    }

    public int profit(int lease, int way) throws IndexOutOfBoundsException, IllegalArgumentException {
        Lease found = demandLease(lease);
        demandArguments(isWithin(way, 0, 1));
        if (way == 0) {
            return found.profitByMovements();
        }
        return found.profitByHoldings(now.sumOfSubleases(lease, RECEIVABLE));
    }

    public int count(int what) throws IllegalArgumentException {
        demandArguments(isWithin(what, 0, LAST_NUMBER));
        switch (what) {
            case 0: return now.leaseCount;
            case 1: return now.subleaseCount;
            case 2: return now.period;
            case 3: return now.runningLeases();
            case 4: return now.sumOfLeases(RUNNING_SUBLEASES);
            case 5: return now.sumOfLeases(LIABILITY);
            case 6: return now.sumOfLeases(ASSET);
            case 7: return now.sumOfLeases(RECEIVABLES);
            case 8: return now.allProfits();
            case 9: return now.endingFirst();
            default: return history.size;
        }
    }

    // ---- what would be; nothing is changed

    public int worth(int payment, int periods, int rate) throws IllegalArgumentException {
        demandArguments(isMoney(payment) && isWithin(periods, 0, MOST_PERIODS) && isRate(rate));
        return presentWorth(payment, periods, rate);
    }

    public int plan(int lease, int periods, int what) throws IndexOutOfBoundsException, IllegalArgumentException {
        Lease found = demandLease(lease);
        demandArguments(isWithin(periods, 0, MOST_PERIODS) && isWithin(what, 0, LAST_OF_PLAN));
        switch (what) {
            case 0: return found.liabilityBehind(periods);
            case 1: return found.assetBehind(periods);
            case 2: return now.receivablesBehind(lease, periods);
            default: return found.interestOfPeriod(periods);
        }
    }

    public int ifMeasured(int lease, int payment, int periods, int rate, int what)
            throws IndexOutOfBoundsException, IllegalArgumentException {
        Lease found = demandLease(lease);
        demandArguments(isMoney(payment) && isPeriods(periods) && isRate(rate)
                && isWithin(what, 0, LAST_OF_MEASURED));
        if (!found.runs()) {
            return NONE;
        }
        int liability = presentWorth(payment, periods, rate);
        int asset = found.assetWithLiability(liability);
        switch (what) {
            case 0: return liability;
            case 1: return asset;
            default: return found.liability - liability + asset - found.asset - now.lossByCutOff(lease, periods);
        }
    }

    public int paymentFor(int lease, int liability) throws IndexOutOfBoundsException, IllegalArgumentException {
        Lease found = demandLease(lease);
        demandArguments(isWithin(liability, 0, MOST_LIABILITY));
        return found.runs() ? greatestPayment(liability, found.periods, found.rate) : NONE;
    }

    public int rateWithin(int lease) throws IndexOutOfBoundsException {
        Lease found = demandLease(lease);
        return found.runs() ? found.greatestRate() : NONE;
    }

    public int fairReceipt(int lease, int thousandths, int periods)
            throws IndexOutOfBoundsException, IllegalArgumentException {
        Lease head = demandLease(lease);
        demandArguments(isThousandths(thousandths) && isPeriods(periods));
        if (!now.canSublet(lease, thousandths, periods)) {
            return NONE;
        }
        return leastReceipt(thousandthsOf(head.asset, thousandths), periods, head.rate);
    }

    public double offShare() {
        int liabilities = now.sumOfLeases(LIABILITY);
        int receivables = now.sumOfLeases(RECEIVABLES);
        return liabilities > 0 ? (double) receivables / (double) liabilities : 0.0;
    }

    public long digest() {
        long hash = FIRST_HASH;
        for (int what = 0; what <= LAST_NUMBER; what++) {
            hash = 31 * hash + count(what);
        }
        for (int number = 0; number < now.leaseCount; number++) {
            hash = hashOfForecasts(hashOfLooks(hash, number), number);
        }
        for (int number = 0; number < now.subleaseCount; number++) {
            for (int what = 0; what <= LAST_SUBLEASE_PROPERTY; what++) {
                hash = 31 * hash + now.subleaseProperty(number, what);
            }
        }
        hash = 31 * hash + bitsOf(offShare());
        hash = 31 * hash + text.length;
        for (int place = 0; place < text.length; place++) {
            hash = 31 * hash + text.codeAt(place);
        }
        return hash;
    }

    private long hashOfLooks(long start, int number) {
        long hash = start;
        for (int what = 0; what <= LAST_LEASE_PROPERTY; what++) {
            hash = 31 * hash + lease(number, what);
        }
        for (int kind = 0; kind < KINDS; kind++) {
            hash = 31 * hash + movement(number, kind);
        }
        hash = 31 * hash + profit(number, 0);
        return 31 * hash + profit(number, 1);
    }

    private long hashOfForecasts(long start, int number) {
        long hash = start;
        for (int what = 0; what <= LAST_OF_PLAN; what++) {
            hash = 31 * hash + plan(number, 3, what);
        }
        int payment = lease(number, 0);
        int rate = lease(number, 2);
        for (int what = 0; what <= LAST_OF_MEASURED; what++) {
            hash = 31 * hash + ifMeasured(number, payment, 12, rate, what);
        }
        hash = 31 * hash + paymentFor(number, 50000);
        hash = 31 * hash + rateWithin(number);
        return 31 * hash + fairReceipt(number, 100, 1);
    }

    private void openTexts() {
        reader.restart();
        for (int place = 0; place < text.length; place++) {
            int code = text.codeAt(place);
            // Behind ";" the reader has forgotten where the lease ahead of it ended.
            if (code == ';') {
                openRead();
            }
            reader.take(code);
        }
        openRead();
    }

    private void openRead() {
        now.addLease(reader.numberOf(PAYMENT_PART), reader.numberOf(PERIODS_PART),
                reader.numberOf(RATE_PART), reader.numberOf(COST_PART));
    }

    private Lease demandLease(int number) {
        Lease found = now.leaseAt(number);
        if (found == null) {
            throw new IndexOutOfBoundsException("there is no such lease");
        }
        return found;
    }

    private static void demandIndex(boolean exists) {
        if (!exists) {
            throw new IndexOutOfBoundsException("there is no such sublease");
        }
    }

    private static void demandArguments(boolean fit) {
        if (!fit) {
            throw new IllegalArgumentException("the argument or the buffer does not fit");
        }
    }

    private static void demandState(boolean allows) {
        if (!allows) {
            throw new IllegalStateException("the register does not allow this now");
        }
    }

    private static boolean isWithin(int number, int least, int most) {
        return number >= least && number <= most;
    }

    private static boolean isMoney(int number) {
        return isWithin(number, 0, MOST_MONEY);
    }

    private static boolean isPeriods(int number) {
        return isWithin(number, 1, MOST_PERIODS);
    }

    private static boolean isRate(int number) {
        return isWithin(number, 0, MOST_RATE);
    }

    private static boolean isThousandths(int number) {
        return isWithin(number, 1, THOUSAND);
    }

    private static int presentWorth(int payment, int periods, int rate) {
        long divisor = RATE_UNIT + rate;
        if (divisor <= 0) {
            return 0;
        }
        long sum = 0;
        for (int i = 0; i < periods; i++) {
            // Twice both sides, so that half a divisor stays a whole number.
            sum = (2 * RATE_UNIT * (sum + payment) + divisor) / (2 * divisor);
        }
        return (int) sum;
    }

    private static int thousandthsOf(int number, int thousandths) {
        return (int) ((long) number * thousandths / THOUSAND);
    }

    /** The greatest payment whose worth is at most this; the worth never falls when the payment grows. */
    private static int greatestPayment(int most, int periods, int rate) {
        int found = 0;
        for (int bit = 16; bit >= 0; bit--) {
            int tried = found + (1 << bit);
            if (tried <= MOST_MONEY && presentWorth(tried, periods, rate) <= most) {
                found = tried;
            }
        }
        return found;
    }

    private static int leastReceipt(int least, int periods, int rate) {
        if (least <= 0) {
            return 0;
        }
        int receipt = greatestPayment(least - 1, periods, rate) + 1;
        return receipt <= MOST_MONEY ? receipt : NONE;
    }

    /** The bits of a share as a double: Double.doubleToLongBits is outside the part of Java kept to here. */
    private static long bitsOf(double share) {
        if (!(share > 0.0)) {
            return 0;
        }
        double scaled = share;
        int exponent = ONES_EXPONENT;
        while (scaled >= 2.0 && exponent < LAST_EXPONENT) {
            scaled = scaled / 2.0;
            exponent++;
        }
        while (scaled < 1.0 && exponent > 1) {
            scaled = scaled * 2.0;
            exponent--;
        }
        return ((long) exponent << FRACTION_BITS) + (long) ((scaled - 1.0) * (double) FRACTION_UNIT);
    }

    private static final class Lease {
        int payment;
        int periods;
        int rate;
        int liability;
        int asset;
        final int[] sums = new int[KINDS];

        void begin(int newPayment, int newPeriods, int newRate, int cost) {
            // The row may still hold a lease that an undo took away.
            for (int kind = 0; kind < sums.length; kind++) {
                sums[kind] = 0;
            }
            payment = newPayment;
            periods = newPeriods;
            rate = newRate;
            liability = presentWorth(newPayment, newPeriods, newRate);
            asset = liability + cost;
            move(OPENED, liability);
            move(ASSET_OPENED, asset);
            move(COSTS, cost);
        }

        void copyFrom(Lease other) {
            payment = other.payment;
            periods = other.periods;
            rate = other.rate;
            liability = other.liability;
            asset = other.asset;
            for (int kind = 0; kind < sums.length && kind < other.sums.length; kind++) {
                sums[kind] = other.sums[kind];
            }
        }

        boolean runs() {
            return periods > 0;
        }

        void move(int kind, int amount) {
            if (kind >= 0 && kind < sums.length) {
                sums[kind] += amount;
            }
        }

        int moved(int kind) {
            return kind >= 0 && kind < sums.length ? sums[kind] : 0;
        }

        int liabilityBehind(int passed) {
            return presentWorth(payment, periods - passed, rate);
        }

        int assetBehind(int passed) {
            int left = asset;
            for (int divisor = periods; divisor > 0 && divisor > periods - passed; divisor--) {
                left -= left / divisor;
            }
            return left;
        }

        int interestOfPeriod(int number) {
            if (number < 1 || number > periods) {
                return 0;
            }
            return liabilityBehind(number) - liabilityBehind(number - 1) + payment;
        }

        void passPeriods(int passed) {
            int paid = payment * Math.min(passed, periods);
            int liabilityThen = liabilityBehind(passed);
            int assetThen = assetBehind(passed);
            // What is between two periods cancels out in the sum of their interests.
            move(INTEREST, liabilityThen - liability + paid);
            move(PAID, paid);
            move(WRITTEN_OFF, asset - assetThen);
            liability = liabilityThen;
            asset = assetThen;
            periods = Math.max(0, periods - passed);
        }

        int assetWithLiability(int liabilityThen) {
            return Math.max(0, asset + liabilityThen - liability);
        }

        void measure(int newPayment, int newPeriods, int newRate) {
            int liabilityThen = presentWorth(newPayment, newPeriods, newRate);
            int assetThen = assetWithLiability(liabilityThen);
            move(MEASURED, liabilityThen - liability);
            move(ASSET_MEASURED, assetThen - asset);
            payment = newPayment;
            periods = newPeriods;
            rate = newRate;
            liability = liabilityThen;
            asset = assetThen;
        }

        int endThousandths(int thousandths, int fee) {
            payment -= thousandthsOf(payment, thousandths);
            int liabilityLess = liability - presentWorth(payment, periods, rate);
            int assetLess = thousandthsOf(asset, thousandths);
            liability -= liabilityLess;
            asset -= assetLess;
            move(ENDED, liabilityLess);
            move(ASSET_ENDED, assetLess);
            move(FEES, fee);
            return liabilityLess - assetLess - fee;
        }

        void subletThousandths(int thousandths, int receivable) {
            int assetLess = thousandthsOf(asset, thousandths);
            asset -= assetLess;
            move(SUBLET, assetLess);
            move(BEGUN, receivable);
        }

        void impairBy(int amount) {
            asset -= amount;
            move(IMPAIRED, amount);
        }

        int greatestRate() {
            if (presentWorth(payment, periods, 0) < asset) {
                return NONE;
            }
            int found = 0;
            for (int bit = 10; bit >= 0; bit--) {
                int tried = found + (1 << bit);
                if (tried <= MOST_RATE && presentWorth(payment, periods, tried) >= asset) {
                    found = tried;
                }
            }
            return found;
        }

        int profitByMovements() {
            return moved(ASSET_MEASURED) - moved(MEASURED) - moved(INTEREST) - moved(WRITTEN_OFF)
                    + moved(ENDED) - moved(ASSET_ENDED) - moved(FEES)
                    + moved(BEGUN) - moved(SUBLET) + moved(RECEIPT_INTEREST) - moved(CUT_OFF) - moved(IMPAIRED);
        }

        int profitByHoldings(int receivables) {
            return asset + receivables - liability + moved(HAD) - moved(PAID) - moved(COSTS) - moved(FEES);
        }
    }

    private static final class Sublease {
        int head;
        int thousandths;
        int receipt;
        int periods;
        int rate;
        int receivable;

        void copyFrom(Sublease other) {
            head = other.head;
            thousandths = other.thousandths;
            receipt = other.receipt;
            periods = other.periods;
            rate = other.rate;
            receivable = other.receivable;
        }

        boolean runsUnder(int lease) {
            return head == lease && periods > 0;
        }

        int receivableWith(int periodsLeft) {
            return presentWorth(receipt, periodsLeft, rate);
        }

        void passPeriods(int passed, Lease lease) {
            int had = receipt * Math.min(passed, periods);
            int receivableThen = receivableWith(periods - passed);
            lease.move(RECEIPT_INTEREST, receivableThen - receivable + had);
            lease.move(HAD, had);
            receivable = receivableThen;
            periods = Math.max(0, periods - passed);
        }

        int lossByCutTo(int most) {
            return receivable - receivableWith(Math.min(periods, most));
        }

        int valueOf(int what) {
            switch (what) {
                case 0: return head;
                case 1: return thousandths;
                case 2: return receipt;
                case 3: return periods;
                case 4: return rate;
                default: return receivable;
            }
        }
    }

    /** All that a saved state holds. Its rows are made once and used again. */
    private static final class State {
        final Lease[] leases = new Lease[MOST_LEASES];
        final Sublease[] subleases = new Sublease[MOST_SUBLEASES];
        int leaseCount;
        int subleaseCount;
        int period;

        State() {
            for (int i = 0; i < leases.length; i++) {
                leases[i] = new Lease();
            }
            for (int i = 0; i < subleases.length; i++) {
                subleases[i] = new Sublease();
            }
        }

        void copyFrom(State other) {
            leaseCount = other.leaseCount;
            subleaseCount = other.subleaseCount;
            period = other.period;
            for (int i = 0; i < leaseCount; i++) {
                Lease to = leaseAt(i);
                Lease from = other.leaseAt(i);
                if (to != null && from != null) {
                    to.copyFrom(from);
                }
            }
            for (int i = 0; i < subleaseCount; i++) {
                Sublease to = subleaseAt(i);
                Sublease from = other.subleaseAt(i);
                if (to != null && from != null) {
                    to.copyFrom(from);
                }
            }
        }

        Lease leaseAt(int number) {
            return number >= 0 && number < leaseCount && number < leases.length ? leases[number] : null;
        }

        Sublease subleaseAt(int number) {
            return number >= 0 && number < subleaseCount && number < subleases.length ? subleases[number] : null;
        }

        int addLease(int payment, int periods, int rate, int cost) {
            int number = leaseCount;
            leaseCount++;
            Lease added = leaseAt(number);
            if (added != null) {
                added.begin(payment, periods, rate, cost);
            }
            return number;
        }

        int addSublease(int lease, Lease head, int thousandths, int receipt, int periods) {
            int number = subleaseCount;
            subleaseCount++;
            Sublease added = subleaseAt(number);
            if (added != null) {
                added.head = lease;
                added.thousandths = thousandths;
                added.receipt = receipt;
                added.periods = periods;
                added.rate = head.rate;
                added.receivable = added.receivableWith(periods);
                head.subletThousandths(thousandths, added.receivable);
            }
            return number;
        }

        int leaseProperty(int number, int what) {
            Lease found = leaseAt(number);
            if (found == null) {
                return NONE;
            }
            switch (what) {
                case 0: return found.payment;
                case 1: return found.periods;
                case 2: return found.rate;
                case LIABILITY: return found.liability;
                case ASSET: return found.asset;
                case RECEIVABLES: return sumOfSubleases(number, RECEIVABLE);
                case 6: return found.liability - sumOfSubleases(number, RECEIVABLE);
                case 7: return sumOfSubleases(number, TAKEN_BY_SUBLEASE);
                default: return runningOf(number);
            }
        }

        int subleaseProperty(int number, int what) {
            Sublease found = subleaseAt(number);
            return found == null ? NONE : found.valueOf(what);
        }

        boolean canSublet(int lease, int thousandths, int periods) {
            Lease head = leaseAt(lease);
            // A lease that does not run has fewer periods left than any sublease.
            return head != null && periods <= head.periods && subleaseCount < MOST_SUBLEASES
                    && sumOfSubleases(lease, TAKEN_BY_SUBLEASE) + thousandths <= THOUSAND;
        }

        void passPeriods(int passed) {
            period += passed;
            for (int i = 0; i < leaseCount; i++) {
                Lease passing = leaseAt(i);
                if (passing != null) {
                    passing.passPeriods(passed);
                }
            }
            for (int i = 0; i < subleaseCount; i++) {
                Sublease passing = subleaseAt(i);
                Lease head = passing == null ? null : leaseAt(passing.head);
                if (passing != null && head != null) {
                    passing.passPeriods(passed, head);
                }
            }
        }

        void cutOff(int lease, Lease head) {
            head.move(CUT_OFF, lossByCutOff(lease, head.periods));
            for (int i = 0; i < subleaseCount; i++) {
                Sublease cut = subleaseAt(i);
                if (cut != null && cut.runsUnder(lease)) {
                    cut.periods = Math.min(cut.periods, head.periods);
                    cut.receivable = cut.receivableWith(cut.periods);
                }
            }
        }

        int lossByCutOff(int lease, int periods) {
            int sum = 0;
            for (int i = 0; i < subleaseCount; i++) {
                Sublease cut = subleaseAt(i);
                if (cut != null && cut.runsUnder(lease)) {
                    sum += cut.lossByCutTo(periods);
                }
            }
            return sum;
        }

        int receivablesBehind(int lease, int passed) {
            int sum = 0;
            for (int i = 0; i < subleaseCount; i++) {
                Sublease had = subleaseAt(i);
                if (had != null && had.runsUnder(lease)) {
                    sum += had.receivableWith(had.periods - passed);
                }
            }
            return sum;
        }

        /** The sum of a property over the subleases of a lease that run. */
        int sumOfSubleases(int lease, int what) {
            int sum = 0;
            for (int i = 0; i < subleaseCount; i++) {
                Sublease summed = subleaseAt(i);
                if (summed != null && summed.runsUnder(lease)) {
                    sum += summed.valueOf(what);
                }
            }
            return sum;
        }

        int runningOf(int lease) {
            int sum = 0;
            for (int i = 0; i < subleaseCount; i++) {
                Sublease running = subleaseAt(i);
                if (running != null && running.runsUnder(lease)) {
                    sum++;
                }
            }
            return sum;
        }

        int runningLeases() {
            int sum = 0;
            for (int i = 0; i < leaseCount; i++) {
                Lease running = leaseAt(i);
                if (running != null && running.runs()) {
                    sum++;
                }
            }
            return sum;
        }

        int sumOfLeases(int what) {
            int sum = 0;
            for (int i = 0; i < leaseCount; i++) {
                sum += leaseProperty(i, what);
            }
            return sum;
        }

        int allProfits() {
            int sum = 0;
            for (int i = 0; i < leaseCount; i++) {
                Lease earning = leaseAt(i);
                sum += earning == null ? 0 : earning.profitByMovements();
            }
            return sum;
        }

        int endingFirst() {
            int found = NONE;
            int fewest = MOST_PERIODS + 1;
            for (int i = 0; i < leaseCount; i++) {
                Lease tried = leaseAt(i);
                if (tried != null && tried.runs() && tried.periods < fewest) {
                    found = i;
                    fewest = tried.periods;
                }
            }
            return found;
        }
    }

    /** The saved states as a ring: the oldest one makes room for the newest one. */
    private static final class History {
        final State[] saved = new State[MOST_SAVED];
        int oldest;
        int size;

        History() {
            for (int i = 0; i < saved.length; i++) {
                saved[i] = new State();
            }
        }

        void save(State state) {
            if (size >= MOST_SAVED) {
                oldest = (oldest + 1) % MOST_SAVED;
                size--;
            }
            State slot = slotAt(size);
            if (slot != null) {
                slot.copyFrom(state);
                size++;
            }
        }

        void restore(State state) {
            State slot = slotAt(size - 1);
            if (slot != null) {
                state.copyFrom(slot);
                size--;
            }
        }

        State slotAt(int age) {
            int place = (oldest + age) % MOST_SAVED;
            return age >= 0 && place >= 0 && place < saved.length ? saved[place] : null;
        }
    }

    private static final class InputText {
        final char[] codes = new char[MOST_CHARACTERS];
        int length;

        void add(int code) {
            if (length >= 0 && length < codes.length) {
                codes[length] = (char) code;
                length++;
            }
        }

        int codeAt(int place) {
            return place >= 0 && place < length && place < codes.length ? codes[place] : 0;
        }

        int countOf(int code) {
            int sum = 0;
            for (int place = 0; place < length; place++) {
                if (codeAt(place) == code) {
                    sum++;
                }
            }
            return sum;
        }
    }

    /** Reads leases as a text, a character at a time: it stands in one number of one lease. */
    private static final class LeaseReader {
        final int[] numbers = new int[PARTS];
        int part;
        int digits;

        void restart() {
            part = PAYMENT_PART;
            digits = 0;
        }

        /** Reads from the start as far as no character is an error, and answers where that ends. */
        int readAll(InputText text) {
            restart();
            for (int place = 0; place < text.length; place++) {
                if (!take(text.codeAt(place))) {
                    return place;
                }
            }
            return text.length;
        }

        boolean take(int code) {
            return code >= '0' && code <= '9' ? takeDigit(code - '0') : takeSign(code);
        }

        boolean takeDigit(int digit) {
            if (part < 0 || part >= numbers.length || part >= LEAST_OF_PART.length || part >= MOST_OF_PART.length) {
                return false;
            }
            int ahead = digits == 0 ? 0 : numbers[part];
            boolean leadsWithZero = digits > 0 && ahead == 0;
            int number = 10 * ahead + digit;
            if (leadsWithZero || number < LEAST_OF_PART[part] || number > MOST_OF_PART[part]) {
                return false;
            }
            numbers[part] = number;
            digits++;
            return true;
        }

        boolean takeSign(int code) {
            int next = partBehind(code);
            if (digits == 0 || next == NONE) {
                return false;
            }
            part = next;
            digits = 0;
            return true;
        }

        int partBehind(int code) {
            switch (code) {
                case '*': return part == PAYMENT_PART ? PERIODS_PART : NONE;
                case '@': return part == PERIODS_PART ? RATE_PART : NONE;
                case '+': return part == RATE_PART ? COST_PART : NONE;
                case ';': return part >= RATE_PART ? PAYMENT_PART : NONE;
                default: return NONE;
            }
        }

        boolean isComplete() {
            return part >= RATE_PART && digits > 0;
        }

        /** A part that this lease leaves out is 0, whatever an earlier one left there. */
        int numberOf(int wanted) {
            return wanted >= 0 && wanted <= part && wanted < numbers.length ? numbers[wanted] : 0;
        }
    }
}
