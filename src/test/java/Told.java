import java.util.ArrayList;
import java.util.List;

/** The digest as the document tells it, by the other calls. */
final class Told {
    private Told() {
    }

    static long hash(long... values) {
        long hash = 2467;
        for (long value : values) {
            hash = 31 * hash + value;
        }
        return hash;
    }

    static long digest(LeaseBook book, String text) {
        List<Long> values = new ArrayList<>();
        for (int what = 0; what <= 10; what++) {
            values.add((long) book.count(what));
        }
        for (int lease = 0; lease < book.count(0); lease++) {
            addLease(values, book, lease);
        }
        for (int sublease = 0; sublease < book.count(1); sublease++) {
            for (int what = 0; what <= 5; what++) {
                values.add((long) book.sublease(sublease, what));
            }
        }
        values.add(Double.doubleToLongBits(book.offShare()));
        values.add((long) text.length());
        for (int i = 0; i < text.length(); i++) {
            values.add((long) text.charAt(i));
        }
        return hash(values.stream().mapToLong(Long::longValue).toArray());
    }

    private static void addLease(List<Long> values, LeaseBook book, int lease) {
        for (int what = 0; what <= 8; what++) {
            values.add((long) book.lease(lease, what));
        }
        for (int kind = 0; kind <= 16; kind++) {
            values.add((long) book.movement(lease, kind));
        }
        values.add((long) book.profit(lease, 0));
        values.add((long) book.profit(lease, 1));
        for (int what = 0; what <= 3; what++) {
            values.add((long) book.plan(lease, 3, what));
        }
        int payment = book.lease(lease, 0);
        int rate = book.lease(lease, 2);
        for (int what = 0; what <= 2; what++) {
            values.add((long) book.ifMeasured(lease, payment, 12, rate, what));
        }
        values.add((long) book.paymentFor(lease, 50000));
        values.add((long) book.rateWithin(lease));
        values.add((long) book.fairReceipt(lease, 100, 1));
    }
}
