import java.util.ArrayList;
import java.util.List;
import java.util.regex.Matcher;
import java.util.regex.Pattern;

/**
 * The document said again as plainly as it can be, with the whole library at hand:
 * every period passes by itself, every search looks at every number, every state is a deep copy.
 */
final class Model {
    private static final class Head {
        int payment;
        int periods;
        int rate;
        int liability;
        int asset;
        int[] movements = new int[17];

        Head copy() {
            Head copy = new Head();
            copy.payment = payment;
            copy.periods = periods;
            copy.rate = rate;
            copy.liability = liability;
            copy.asset = asset;
            copy.movements = movements.clone();
            return copy;
        }
    }

    private record Sub(int head, int thousandths, int receipt, int periods, int rate, int receivable) {
    }

    private record Saved(List<Head> heads, List<Sub> subs, int period) {
    }

    private static final String MONEY = "(?:0|[1-9][0-9]{0,4}|100000)";
    private static final String ONE = MONEY + "\\*(?:[1-9]|[1-5][0-9]|60)@(?:0|[1-9][0-9]{0,2}|1[0-9]{3}|2000)"
            + "(?:\\+" + MONEY + ")?";
    private static final Pattern LEASES = Pattern.compile(ONE + "(?:;" + ONE + ")*");

    private List<Head> heads = new ArrayList<>();
    private List<Sub> subs = new ArrayList<>();
    private int period;
    private String buffer = "";
    private final List<Saved> saved = new ArrayList<>();

    static int worthOf(int payment, int periods, int rate) {
        long worth = 0;
        for (int m = 1; m <= periods; m++) {
            long up = (worth + payment) * 10000;
            long rest = up % (10000 + rate);
            worth = up / (10000 + rate) + (rest * 2 >= 10000 + rate ? 1 : 0);
        }
        return (int) worth;
    }

    private Model twin() {
        Model twin = new Model();
        for (Head head : heads) {
            twin.heads.add(head.copy());
        }
        twin.subs.addAll(subs);
        twin.period = period;
        return twin;
    }

    private void save() {
        Model twin = twin();
        saved.add(new Saved(twin.heads, twin.subs, twin.period));
        if (saved.size() > 6) {
            saved.remove(0);
        }
    }

    private void leaseExists(int lease) {
        if (lease < 0 || lease >= heads.size()) {
            throw new IndexOutOfBoundsException();
        }
    }

    private static void in(int number, int least, int most) {
        if (number < least || number > most) {
            throw new IllegalArgumentException();
        }
    }

    private static void may(boolean may) {
        if (!may) {
            throw new IllegalStateException();
        }
    }

    int open(int payment, int periods, int rate, int cost) {
        in(payment, 0, 100000);
        in(periods, 1, 60);
        in(rate, 0, 2000);
        in(cost, 0, 100000);
        may(heads.size() < 8);
        save();
        opened(payment, periods, rate, cost);
        return heads.size() - 1;
    }

    private void opened(int payment, int periods, int rate, int cost) {
        Head head = new Head();
        head.payment = payment;
        head.periods = periods;
        head.rate = rate;
        head.liability = worthOf(payment, periods, rate);
        head.asset = head.liability + cost;
        head.movements[0] = head.liability;
        head.movements[5] = head.asset;
        head.movements[15] = cost;
        heads.add(head);
    }

    private void measured(int lease, int payment, int periods, int rate) {
        Head head = heads.get(lease);
        int before = head.liability;
        int assetBefore = head.asset;
        head.payment = payment;
        head.periods = periods;
        head.rate = rate;
        head.liability = worthOf(payment, periods, rate);
        head.asset += head.liability - before;
        if (head.asset < 0) {
            head.asset = 0;
        }
        head.movements[3] += head.liability - before;
        head.movements[7] += head.asset - assetBefore;
        for (int i = 0; i < subs.size(); i++) {
            Sub sub = subs.get(i);
            if (sub.head == lease && sub.periods > periods) {
                int then = worthOf(sub.receipt, periods, sub.rate);
                head.movements[14] += sub.receivable - then;
                subs.set(i, new Sub(lease, sub.thousandths, sub.receipt, periods, sub.rate, then));
            }
        }
    }

    int term(int lease, int periods, int rate) {
        leaseExists(lease);
        in(periods, 1, 60);
        in(rate, 0, 2000);
        may(heads.get(lease).periods > 0);
        save();
        measured(lease, heads.get(lease).payment, periods, rate);
        return heads.get(lease).liability;
    }

    int rent(int lease, int payment) {
        leaseExists(lease);
        in(payment, 0, 100000);
        may(heads.get(lease).periods > 0);
        save();
        measured(lease, payment, heads.get(lease).periods, heads.get(lease).rate);
        return heads.get(lease).liability;
    }

    int endPart(int lease, int thousandths, int fee) {
        leaseExists(lease);
        in(thousandths, 1, 1000);
        in(fee, 0, 100000);
        may(heads.get(lease).periods > 0 && lease(lease, 8) == 0);
        save();
        Head head = heads.get(lease);
        int liability = head.liability;
        int asset = head.asset;
        head.payment -= (int) Math.floorDiv((long) head.payment * thousandths, 1000L);
        head.liability = worthOf(head.payment, head.periods, head.rate);
        head.asset -= (int) Math.floorDiv((long) head.asset * thousandths, 1000L);
        head.movements[4] += liability - head.liability;
        head.movements[8] += asset - head.asset;
        head.movements[16] += fee;
        return (liability - head.liability) - (asset - head.asset) - fee;
    }

    int impair(int lease, int amount) {
        leaseExists(lease);
        in(amount, 1, 1000000);
        Head head = heads.get(lease);
        may(head.asset >= amount);
        save();
        head = heads.get(lease);
        head.asset -= amount;
        head.movements[10] += amount;
        return head.asset;
    }

    private boolean maySublet(int lease, int thousandths, int periods) {
        Head head = heads.get(lease);
        return head.periods > 0 && head.periods >= periods && lease(lease, 7) + thousandths <= 1000
                && subs.size() < 12;
    }

    int sublet(int lease, int thousandths, int receipt, int periods) {
        leaseExists(lease);
        in(thousandths, 1, 1000);
        in(receipt, 0, 100000);
        in(periods, 1, 60);
        may(maySublet(lease, thousandths, periods));
        save();
        return begun(lease, thousandths, receipt, periods);
    }

    private int begun(int lease, int thousandths, int receipt, int periods) {
        Head head = heads.get(lease);
        int part = (int) Math.floorDiv((long) head.asset * thousandths, 1000L);
        int receivable = worthOf(receipt, periods, head.rate);
        head.asset -= part;
        head.movements[9] += part;
        head.movements[11] += receivable;
        subs.add(new Sub(lease, thousandths, receipt, periods, head.rate, receivable));
        return subs.size() - 1;
    }

    /** Answers the interest on the liability of one lease in this period. */
    private int onePeriod(int asked) {
        int answer = 0;
        for (int i = 0; i < heads.size(); i++) {
            Head head = heads.get(i);
            if (head.periods > 0) {
                int liability = worthOf(head.payment, head.periods - 1, head.rate);
                int interest = liability - head.liability + head.payment;
                int off = head.asset / head.periods;
                head.movements[2] += head.payment;
                head.movements[1] += interest;
                head.movements[6] += off;
                head.periods--;
                head.liability = liability;
                head.asset -= off;
                if (i == asked) {
                    answer = interest;
                }
                for (int j = 0; j < subs.size(); j++) {
                    Sub sub = subs.get(j);
                    if (sub.head == i && sub.periods > 0) {
                        int then = worthOf(sub.receipt, sub.periods - 1, sub.rate);
                        head.movements[13] += sub.receipt;
                        head.movements[12] += then - sub.receivable + sub.receipt;
                        subs.set(j, new Sub(i, sub.thousandths, sub.receipt, sub.periods - 1, sub.rate, then));
                    }
                }
            }
        }
        return answer;
    }

    int pass(int periods) {
        in(periods, 1, 60);
        may(period + periods <= 2000);
        save();
        for (int i = 0; i < periods; i++) {
            onePeriod(0);
            period++;
        }
        return period;
    }

    int append(int code) {
        in(code, 33, 126);
        may(buffer.length() < 60);
        buffer += (char) code;
        return buffer.length();
    }

    int clearBuffer() {
        int length = buffer.length();
        buffer = "";
        return length;
    }

    int firstError() {
        for (int end = 1; end <= buffer.length(); end++) {
            Matcher matcher = LEASES.matcher(buffer.substring(0, end));
            if (!matcher.matches() && !matcher.hitEnd()) {
                return end - 1;
            }
        }
        return buffer.length();
    }

    int openAll() {
        if (!LEASES.matcher(buffer).matches()) {
            throw new IllegalArgumentException();
        }
        String[] texts = buffer.split(";");
        may(heads.size() + texts.length <= 8);
        save();
        for (String one : texts) {
            String[] numbers = one.split("[*@+]");
            opened(Integer.parseInt(numbers[0]), Integer.parseInt(numbers[1]), Integer.parseInt(numbers[2]),
                    numbers.length > 3 ? Integer.parseInt(numbers[3]) : 0);
        }
        buffer = "";
        return heads.size();
    }

    int undo() {
        may(!saved.isEmpty());
        Saved last = saved.remove(saved.size() - 1);
        heads = last.heads;
        subs = last.subs;
        period = last.period;
        return saved.size();
    }

    int lease(int lease, int what) {
        leaseExists(lease);
        in(what, 0, 8);
        Head head = heads.get(lease);
        int receivables = 0;
        int thousandths = 0;
        int running = 0;
        for (Sub sub : subs) {
            if (sub.head == lease) {
                receivables += sub.receivable;
                if (sub.periods > 0) {
                    thousandths += sub.thousandths;
                    running++;
                }
            }
        }
        return new int[] {head.payment, head.periods, head.rate, head.liability, head.asset, receivables,
            head.liability - receivables, thousandths, running}[what];
    }

    int sublease(int sublease, int what) {
        if (sublease < 0 || sublease >= subs.size()) {
            throw new IndexOutOfBoundsException();
        }
        in(what, 0, 5);
        Sub sub = subs.get(sublease);
        return new int[] {sub.head, sub.thousandths, sub.receipt, sub.periods, sub.rate, sub.receivable}[what];
    }

    int movement(int lease, int kind) {
        leaseExists(lease);
        in(kind, 0, 16);
        return heads.get(lease).movements[kind];
    }

    int profit(int lease, int way) {
        leaseExists(lease);
        in(way, 0, 1);
        int[] m = heads.get(lease).movements;
        if (way == 0) {
            return -m[1] - m[6] - m[3] + m[7] + m[4] - m[8] - m[16] + m[11] - m[9] + m[12] - m[14] - m[10];
        }
        return lease(lease, 4) + lease(lease, 5) - lease(lease, 3) + m[13] - m[2] - m[15] - m[16];
    }

    int count(int what) {
        in(what, 0, 10);
        int[] numbers = new int[11];
        numbers[0] = heads.size();
        numbers[1] = subs.size();
        numbers[2] = period;
        numbers[9] = -1;
        numbers[10] = saved.size();
        for (int i = 0; i < heads.size(); i++) {
            int periods = lease(i, 1);
            numbers[3] += periods > 0 ? 1 : 0;
            numbers[5] += lease(i, 3);
            numbers[6] += lease(i, 4);
            numbers[7] += lease(i, 5);
            numbers[8] += profit(i, 0);
            if (periods > 0 && (numbers[9] < 0 || periods < lease(numbers[9], 1))) {
                numbers[9] = i;
            }
        }
        for (Sub sub : subs) {
            numbers[4] += sub.periods > 0 ? 1 : 0;
        }
        return numbers[what];
    }

    int worth(int payment, int periods, int rate) {
        in(payment, 0, 100000);
        in(periods, 0, 60);
        in(rate, 0, 2000);
        return worthOf(payment, periods, rate);
    }

    int plan(int lease, int periods, int what) {
        leaseExists(lease);
        in(periods, 0, 60);
        in(what, 0, 3);
        Model twin = twin();
        int interest = 0;
        for (int i = 0; i < periods; i++) {
            interest = twin.onePeriod(lease);
        }
        return new int[] {twin.lease(lease, 3), twin.lease(lease, 4), twin.lease(lease, 5), interest}[what];
    }

    int ifMeasured(int lease, int payment, int periods, int rate, int what) {
        leaseExists(lease);
        in(payment, 0, 100000);
        in(periods, 1, 60);
        in(rate, 0, 2000);
        in(what, 0, 2);
        if (lease(lease, 1) == 0) {
            return -1;
        }
        Model twin = twin();
        twin.measured(lease, payment, periods, rate);
        return new int[] {twin.lease(lease, 3), twin.lease(lease, 4),
            twin.profit(lease, 1) - profit(lease, 1)}[what];
    }

    /** Looks from where a worth without rounding would put the answer, far enough to both sides. */
    int paymentFor(int lease, int liability) {
        leaseExists(lease);
        in(liability, 0, 10000000);
        int periods = lease(lease, 1);
        if (periods == 0) {
            return -1;
        }
        int payment = (int) Math.min(100000, (long) liability * 100000 / worthOf(100000, periods, lease(lease, 2)));
        payment = Math.min(100000, payment + 100);
        while (worthOf(payment, periods, lease(lease, 2)) > liability) {
            payment--;
        }
        return payment;
    }

    int rateWithin(int lease) {
        leaseExists(lease);
        if (lease(lease, 1) == 0) {
            return -1;
        }
        int rate = 2000;
        while (rate >= 0 && worthOf(lease(lease, 0), lease(lease, 1), rate) < lease(lease, 4)) {
            rate--;
        }
        return rate;
    }

    int fairReceipt(int lease, int thousandths, int periods) {
        leaseExists(lease);
        in(thousandths, 1, 1000);
        in(periods, 1, 60);
        if (!maySublet(lease, thousandths, periods)) {
            return -1;
        }
        int part = (int) ((long) lease(lease, 4) * thousandths / 1000);
        int top = worthOf(100000, periods, lease(lease, 2));
        if (top < part) {
            return -1;
        }
        int receipt = Math.max(0, (int) ((long) part * 100000 / top) - 100);
        while (worthOf(receipt, periods, lease(lease, 2)) < part) {
            receipt++;
        }
        return receipt;
    }

    double offShare() {
        return count(5) == 0 ? 0.0 : (double) count(7) / count(5);
    }

    long digest() {
        List<Long> values = new ArrayList<>();
        for (int what = 0; what <= 10; what++) {
            values.add((long) count(what));
        }
        for (int lease = 0; lease < heads.size(); lease++) {
            for (int what = 0; what <= 8; what++) {
                values.add((long) lease(lease, what));
            }
            for (int kind = 0; kind <= 16; kind++) {
                values.add((long) movement(lease, kind));
            }
            values.add((long) profit(lease, 0));
            values.add((long) profit(lease, 1));
            for (int what = 0; what <= 3; what++) {
                values.add((long) plan(lease, 3, what));
            }
            for (int what = 0; what <= 2; what++) {
                values.add((long) ifMeasured(lease, lease(lease, 0), 12, lease(lease, 2), what));
            }
            values.add((long) paymentFor(lease, 50000));
            values.add((long) rateWithin(lease));
            values.add((long) fairReceipt(lease, 100, 1));
        }
        for (int sublease = 0; sublease < subs.size(); sublease++) {
            for (int what = 0; what <= 5; what++) {
                values.add((long) sublease(sublease, what));
            }
        }
        values.add(Double.doubleToLongBits(offShare()));
        values.add((long) buffer.length());
        for (char code : buffer.toCharArray()) {
            values.add((long) code);
        }
        long hash = 2467;
        for (long value : values) {
            hash = 31 * hash + value;
        }
        return hash;
    }
}
