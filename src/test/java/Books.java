/** Registers to test with, and how a text comes into one. */
final class Books {
    private Books() {
    }

    /** One lease of 3 periods of 1000 by a rate of 2000, at a cost of 100: liability 2107, asset 2207. */
    static LeaseBook three() {
        LeaseBook book = new LeaseBook();
        book.open(1000, 3, 2000, 100);
        return book;
    }

    /** One lease without interest: its liability and its asset are its payments. */
    static LeaseBook plain(int payment, int periods) {
        LeaseBook book = new LeaseBook();
        book.open(payment, periods, 0, 0);
        return book;
    }

    /** The lease with the most of everything, without interest: liability 6000000, asset 6100000. */
    static LeaseBook largest() {
        LeaseBook book = new LeaseBook();
        book.open(100000, 60, 0, 100000);
        return book;
    }

    /** Eight leases of 8, 7, .. 1 periods. */
    static LeaseBook full() {
        LeaseBook book = new LeaseBook();
        for (int i = 0; i < 8; i++) {
            book.open(100 * i, 8 - i, 0, 0);
        }
        return book;
    }

    /** A lease of 6 periods of 1000 by no rate, half of it sublet for 3 and a quarter for 6 periods. */
    static LeaseBook letOn() {
        LeaseBook book = plain(1000, 6);
        book.sublet(0, 500, 900, 3);
        book.sublet(0, 250, 400, 6);
        return book;
    }

    /** A lease of 60 periods of 1000, a thousandth of it sublet twelve times, for one period each. */
    static LeaseBook fullySublet() {
        LeaseBook book = plain(1000, 60);
        for (int i = 0; i < 12; i++) {
            book.sublet(0, 1, 1, 1);
        }
        return book;
    }

    /** One lease that has ended, and one of 3 periods that runs. */
    static LeaseBook endedAndRunning() {
        LeaseBook book = plain(1000, 1);
        book.pass(1);
        book.open(1000, 3, 0, 0);
        return book;
    }

    /** A register without leases in this period, which is a multiple of 20. */
    static LeaseBook inPeriod(int period) {
        LeaseBook book = new LeaseBook();
        for (int passed = 0; passed < period; passed += 20) {
            book.pass(20);
        }
        return book;
    }

    static LeaseBook written(String text) {
        LeaseBook book = new LeaseBook();
        write(book, text);
        return book;
    }

    static void write(LeaseBook book, String text) {
        for (int i = 0; i < text.length(); i++) {
            book.append(text.charAt(i));
        }
    }
}
