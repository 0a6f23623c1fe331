import java.math.BigInteger;

/** The boundaries of promises 19 to 26: what would be. */
final class ForecastBoundariesTest extends Boundary {
    public static void main(String[] args) {
        new ForecastBoundariesTest().runAll(19, 26);
    }

    private void worthIs(int want, int payment, int periods, int rate) {
        looks("worth(" + payment + ", " + periods + ", " + rate + ")", new LeaseBook(),
                b -> b.worth(payment, periods, rate), want);
    }

    private void planIs(LeaseBook book, int periods, int... want) {
        for (int what = 0; what <= 3; what++) {
            int asked = what;
            looks("plan behind " + periods + ", what " + what, book, b -> b.plan(0, periods, asked), want[what]);
        }
    }

    private void measuredIs(LeaseBook book, int payment, int periods, int... want) {
        for (int what = 0; what <= 2; what++) {
            int asked = what;
            looks("ifMeasured with " + payment + ", " + periods + ", what " + what, book,
                    b -> b.ifMeasured(0, payment, periods, 0, asked), want[what]);
        }
    }

    private void rateIs(int want, LeaseBook book) {
        looks("rateWithin", book, b -> b.rateWithin(0), want);
    }

    private static LeaseBook atRate(int payment, int periods, int rate, int cost) {
        LeaseBook book = new LeaseBook();
        book.open(payment, periods, rate, cost);
        return book;
    }

    // ---- promise 19: worth

    void promise19PaymentIs0To100000() {
        takes(0, 100000, LeaseBook::new, (b, n) -> b.worth(n, 60, 2000));
        worthIs(0, 0, 60, 2000);
        worthIs(0, 0, 60, 0);
    }

    void promise19PeriodsAre0To60() {
        takes(0, 60, LeaseBook::new, (b, n) -> b.worth(1, n, 1));
        worthIs(1000, 1000, 1, 0);
        worthIs(60000, 1000, 60, 0);
    }

    void promise19RateIs0To2000() {
        takes(0, 2000, LeaseBook::new, (b, n) -> b.worth(1, 1, n));
        worthIs(833, 1000, 1, 2000);
        worthIs(1000, 1000, 1, 0);
    }

    void promise19ItIs0ForNoPayments() {
        worthIs(0, 100000, 0, 0);
        worthIs(0, 100000, 0, 2000);
    }

    void promise19HalvesUp() {
        worthIs(2, 2, 1, 2000);
        worthIs(3, 3, 1, 2000);
        worthIs(3, 4, 1, 2000);
        worthIs(1528, 1000, 2, 2000);
        worthIs(5000, 5000, 1, 1);
        worthIs(5000, 5001, 1, 1);
    }

    void promise19RoundedForEachPayment() {
        worthIs(1, 1, 1, 2000);
        worthIs(2, 1, 2, 2000);
        worthIs(3, 1, 3, 2000);
        worthIs(3, 1, 60, 2000);
    }

    void promise19TheHighestNumbers() {
        worthIs(6000000, 100000, 60, 0);
        worthIs(499992, 100000, 60, 2000);
    }

    // ---- promise 20: plan

    void promise20ThereIsSuchALease() {
        leaseIsThere((b, n) -> b.plan(n, 1, 0));
    }

    void promise20PeriodsAre0To60() {
        takes(0, 60, Books::three, (b, n) -> b.plan(0, n, 0));
        takes(0, 60, Books::endedAndRunning, (b, n) -> b.plan(0, n, 3));
    }

    void promise20WhatIs0To3() {
        takes(0, 3, Books::three, (b, n) -> b.plan(0, 1, n));
        takes(0, 3, Books::endedAndRunning, (b, n) -> b.plan(0, 1, n));
    }

    void promise20NoSuchLeaseComesAheadOfAWrongArgument() {
        refused("periods", Books.three(), b -> b.plan(1, 61, 0), Check.INDEX);
        refused("what", Books.three(), b -> b.plan(1, 1, 4), Check.INDEX);
    }

    void promise20Behind0PeriodsItIsAsNow() {
        LeaseBook book = Books.three();
        book.sublet(0, 1, 1000, 2);
        planIs(book, 0, 2107, 2205, 1528, 0);
        book.pass(1);
        planIs(book, 0, 1528, 1470, 833, 0);
    }

    void promise20TheFirstPeriod() {
        planIs(Books.three(), 1, 1528, 1472, 0, 421);
    }

    void promise20TheLastPeriodAndBehindIt() {
        LeaseBook book = Books.three();
        planIs(book, 2, 833, 736, 0, 305);
        planIs(book, 3, 0, 0, 0, 167);
        planIs(book, 4, 0, 0, 0, 0);
        planIs(book, 60, 0, 0, 0, 0);
    }

    void promise20SixtyOfSixtyPeriods() {
        LeaseBook book = atRate(1000, 60, 2000, 60);
        due("liability behind 59", book.plan(0, 59, 0), 833);
        due("liability behind 60", book.plan(0, 60, 0), 0);
        due("asset behind 60", book.plan(0, 60, 1), 0);
        due("interest of the sixtieth", book.plan(0, 60, 3), 167);
    }

    void promise20AnEndedLease() {
        planIs(Books.endedAndRunning(), 0, 0, 0, 0, 0);
        planIs(Books.endedAndRunning(), 1, 0, 0, 0, 0);
        planIs(Books.endedAndRunning(), 60, 0, 0, 0, 0);
    }

    void promise20ASubleaseEndsAheadOfItsLease() {
        LeaseBook book = Books.letOn();
        due("behind 2", book.plan(0, 2, 2), 900 + 1600);
        due("behind 3", book.plan(0, 3, 2), 1200);
        due("behind 6", book.plan(0, 6, 2), 0);
        due("behind 60", book.plan(0, 60, 2), 0);
    }

    void promise20ASubleaseOfAnotherLeaseDoesNotMatter() {
        LeaseBook book = Books.three();
        book.open(1000, 3, 0, 0);
        book.sublet(1, 500, 900, 3);
        due("receivables", book.plan(0, 1, 2), 0);
        due("receivables of the other lease", book.plan(1, 1, 2), 1800);
    }

    void promise20TheLimitOf2000DoesNotMatter() {
        LeaseBook book = Books.inPeriod(2000);
        book.open(1000, 60, 0, 0);
        planIs(book, 59, 1000, 1000, 0, 0);
        planIs(book, 60, 0, 0, 0, 0);
    }

    // ---- promise 21: ifMeasured

    void promise21ThereIsSuchALease() {
        leaseIsThere((b, n) -> b.ifMeasured(n, 1, 1, 1, 0));
    }

    void promise21PaymentIs0To100000() {
        takes(0, 100000, Books::three, (b, n) -> b.ifMeasured(0, n, 1, 1, 0));
        measuredIs(Books.plain(1000, 3), 0, 3, 0, 0, 0);
        measuredIs(Books.plain(1000, 3), 100000, 60, 6000000, 6000000, 0);
    }

    void promise21PeriodsAre1To60() {
        takes(1, 60, Books::three, (b, n) -> b.ifMeasured(0, 1, n, 1, 0));
    }

    void promise21RateIs0To2000() {
        takes(0, 2000, Books::three, (b, n) -> b.ifMeasured(0, 1, 1, n, 0));
        due("by the highest", Books.plain(0, 1).ifMeasured(0, 1000, 3, 2000, 0), 2107);
        due("by the lowest", Books.three().ifMeasured(0, 1000, 3, 0, 0), 3000);
    }

    void promise21WhatIs0To2() {
        takes(0, 2, Books::three, (b, n) -> b.ifMeasured(0, 1, 1, 1, n));
    }

    void promise21NoSuchLeaseComesAheadOfAWrongArgument() {
        refused("payment", Books.three(), b -> b.ifMeasured(1, -1, 1, 1, 0), Check.INDEX);
        refused("periods", Books.three(), b -> b.ifMeasured(1, 1, 0, 1, 0), Check.INDEX);
        refused("rate", Books.three(), b -> b.ifMeasured(1, 1, 1, -1, 0), Check.INDEX);
        refused("what", Books.three(), b -> b.ifMeasured(1, 1, 1, 1, 3), Check.INDEX);
    }

    void promise21NoneIfItDoesNotRun() {
        measuredIs(Books.endedAndRunning(), 1000, 1, -1, -1, -1);
        LeaseBook lastPeriod = Books.plain(1000, 3);
        lastPeriod.pass(2);
        measuredIs(lastPeriod, 1000, 2, 2000, 2000, 0);
    }

    void promise21AWrongArgumentComesAheadOfNone() {
        LeaseBook book = Books.endedAndRunning();
        refused("payment", book, b -> b.ifMeasured(0, 100001, 1, 1, 0), Check.ARGUMENT);
        refused("periods", book, b -> b.ifMeasured(0, 1, 61, 1, 0), Check.ARGUMENT);
        refused("rate", book, b -> b.ifMeasured(0, 1, 1, 2001, 0), Check.ARGUMENT);
        refused("what", book, b -> b.ifMeasured(0, 1, 1, 1, -1), Check.ARGUMENT);
    }

    void promise21TheAssetBecomesAtLeast0() {
        int[][] dueBehind = {{1499, 1, 0}, {1500, 0, 0}, {1501, 0, 1}, {3000, 0, 1500}};
        for (int[] want : dueBehind) {
            LeaseBook book = Books.plain(1000, 3);
            book.impair(0, want[0]);
            measuredIs(book, 500, 3, 1500, want[1], want[2]);
        }
    }

    void promise21WithSubleasesThatAreCutOff() {
        measuredIs(Books.letOn(), 1000, 6, 6000, 2250, 0);
        measuredIs(Books.letOn(), 1000, 5, 5000, 1250, -400);
        measuredIs(Books.letOn(), 1000, 3, 3000, 0, 3000 - 2250 - 1200);
        measuredIs(Books.letOn(), 1000, 2, 2000, 0, 4000 - 2250 - 1600 - 900);
        measuredIs(Books.letOn(), 1000, 60, 60000, 56250, 0);
    }

    void promise21AnEndedSubleaseIsNotCutOff() {
        LeaseBook book = Books.letOn();
        book.pass(3);
        measuredIs(book, 1000, 1, 1000, 0, 2000 - 1125 - 800);
    }

    void promise21ASubleaseOfAnotherLeaseIsNotCutOff() {
        LeaseBook book = Books.plain(1000, 6);
        book.open(1000, 6, 0, 0);
        book.sublet(1, 500, 900, 6);
        measuredIs(book, 1000, 1, 1000, 1000, 0);
    }

    // ---- promise 22: paymentFor

    void promise22ThereIsSuchALease() {
        leaseIsThere((b, n) -> b.paymentFor(n, 1));
    }

    void promise22LiabilityIs0To10000000() {
        takes(0, 10000000, Books::three, (b, n) -> b.paymentFor(0, n));
        looks("the lowest", Books.three(), b -> b.paymentFor(0, 0), 0);
        looks("the highest", Books.three(), b -> b.paymentFor(0, 10000000), 100000);
        looks("the highest of 60 periods", Books.largest(), b -> b.paymentFor(0, 10000000), 100000);
    }

    void promise22WithWhichItWouldBeAtMostThis() {
        looks("as much", Books.three(), b -> b.paymentFor(0, 2107), 1000);
        looks("one less", Books.three(), b -> b.paymentFor(0, 2106), 999);
        looks("less than a period of 1", Books.plain(1000, 60), b -> b.paymentFor(0, 59), 0);
        looks("a period of 1", Books.plain(1000, 60), b -> b.paymentFor(0, 60), 1);
    }

    void promise22TheGreatestOfSeveral() {
        looks("3 and 4 are worth 3", atRate(0, 1, 2000, 0), b -> b.paymentFor(0, 3), 4);
    }

    void promise22TheGreatestIs100000() {
        looks("as much", Books.largest(), b -> b.paymentFor(0, 6000000), 100000);
        looks("one less", Books.largest(), b -> b.paymentFor(0, 5999999), 99999);
        looks("one more", Books.largest(), b -> b.paymentFor(0, 6000001), 100000);
    }

    void promise22NoneIfItDoesNotRun() {
        looks("ended", Books.endedAndRunning(), b -> b.paymentFor(0, 1000), LeaseBook.NONE);
        LeaseBook lastPeriod = Books.three();
        lastPeriod.pass(2);
        looks("in the last period", lastPeriod, b -> b.paymentFor(0, 833), 1000);
    }

    void promise22NoSuchLeaseComesAheadOfAWrongArgument() {
        refused("paymentFor", Books.three(), b -> b.paymentFor(1, -1), Check.INDEX);
    }

    void promise22AWrongArgumentComesAheadOfNone() {
        refused("too low", Books.endedAndRunning(), b -> b.paymentFor(0, -1), Check.ARGUMENT);
        refused("too high", Books.endedAndRunning(), b -> b.paymentFor(0, 10000001), Check.ARGUMENT);
    }

    // ---- promise 23: rateWithin

    void promise23ThereIsSuchALease() {
        leaseIsThere((b, n) -> b.rateWithin(n));
    }

    void promise23TheGreatestIs2000() {
        rateIs(2000, atRate(1000, 1, 2000, 0));
        rateIs(2000, atRate(1000, 60, 2000, 0));
        rateIs(1997, atRate(1000, 1, 2000, 1));
    }

    void promise23TheLeastIs0() {
        rateIs(0, atRate(100000, 1, 0, 0));
        rateIs(0, atRate(100000, 60, 0, 0));
        rateIs(1, atRate(100000, 1, 1, 0));
    }

    void promise23NoneIfThereIsNoRate() {
        rateIs(-1, atRate(100000, 1, 0, 1));
        rateIs(-1, Books.largest());
        rateIs(-1, atRate(0, 1, 0, 1));
    }

    void promise23AtLeastItsAsset() {
        LeaseBook book = Books.plain(100000, 1);
        book.impair(0, 10);
        rateIs(1, book);
        due("the worth by it is the asset", book.worth(100000, 1, 1), book.lease(0, 4));
        book.impair(0, 1);
        rateIs(1, book);
        book.impair(0, 9);
        rateIs(2, book);
    }

    void promise23AnAssetOf0() {
        rateIs(2000, Books.plain(0, 1));
        LeaseBook book = Books.three();
        book.impair(0, 2207);
        rateIs(2000, book);
    }

    void promise23NoneIfItDoesNotRun() {
        rateIs(-1, Books.endedAndRunning());
        LeaseBook lastPeriod = atRate(1000, 2, 2000, 0);
        lastPeriod.pass(1);
        rateIs(2000, lastPeriod);
    }

    // ---- promise 24: fairReceipt

    void promise24ThereIsSuchALease() {
        leaseIsThere((b, n) -> b.fairReceipt(n, 1, 1));
    }

    void promise24ThousandthsAre1To1000() {
        takes(1, 1000, Books::three, (b, n) -> b.fairReceipt(0, n, 1));
        looks("the least", Books.plain(1000, 1), b -> b.fairReceipt(0, 1, 1), 1);
        looks("the most", Books.plain(1000, 1), b -> b.fairReceipt(0, 1000, 1), 1000);
    }

    void promise24PeriodsAre1To60() {
        takes(1, 60, () -> Books.plain(1000, 60), (b, n) -> b.fairReceipt(0, 1, n));
        looks("the most", Books.plain(1000, 60), b -> b.fairReceipt(0, 1000, 60), 1000);
    }

    void promise24NoSuchLeaseComesAheadOfAWrongArgument() {
        refused("thousandths", Books.three(), b -> b.fairReceipt(1, 0, 1), Check.INDEX);
        refused("periods", Books.three(), b -> b.fairReceipt(1, 1, 61), Check.INDEX);
    }

    void promise24AWrongArgumentComesAheadOfNone() {
        refused("thousandths", Books.endedAndRunning(), b -> b.fairReceipt(0, 1001, 1), Check.ARGUMENT);
        refused("periods", Books.endedAndRunning(), b -> b.fairReceipt(0, 1, 0), Check.ARGUMENT);
        refused("thousandths, 12 subleases", Books.fullySublet(), b -> b.fairReceipt(0, 0, 1), Check.ARGUMENT);
    }

    void promise24TheLeastWithoutALoss() {
        LeaseBook book = Books.three();
        looks("fairReceipt", book, b -> b.fairReceipt(0, 333, 1), 881);
        book.sublet(0, 333, 881, 1);
        due("the profit", book.profit(0, 0), 0);
        book.undo();
        book.sublet(0, 333, 880, 1);
        due("the profit with one less", book.profit(0, 0), -1);
        looks("3 and 4 are worth 3", atRate(0, 1, 2000, 3), b -> b.fairReceipt(0, 1000, 1), 3);
    }

    void promise24TheLeastIs0() {
        looks("no asset", Books.plain(0, 1), b -> b.fairReceipt(0, 1000, 1), 0);
        looks("a part that is rounded down to 0", Books.plain(999, 1), b -> b.fairReceipt(0, 1, 1), 0);
    }

    void promise24TheGreatestIs100000() {
        looks("as much", Books.plain(100000, 2), b -> b.fairReceipt(0, 500, 1), 100000);
        looks("more", Books.plain(100000, 2), b -> b.fairReceipt(0, 501, 1), LeaseBook.NONE);
        looks("one less", atRate(99999, 1, 0, 0), b -> b.fairReceipt(0, 1000, 1), 99999);
        looks("one more", atRate(100000, 1, 0, 1), b -> b.fairReceipt(0, 1000, 1), LeaseBook.NONE);
    }

    void promise24AnEndedLeaseCannotBegin() {
        looks("ended", Books.endedAndRunning(), b -> b.fairReceipt(0, 1, 1), LeaseBook.NONE);
    }

    void promise24AtMostAsManyPeriodsAsTheLeaseHas() {
        looks("as many", Books.plain(1000, 3), b -> b.fairReceipt(0, 1000, 3), 1000);
        looks("one more", Books.plain(1000, 3), b -> b.fairReceipt(0, 1000, 4), LeaseBook.NONE);
        LeaseBook lastPeriod = Books.plain(1000, 3);
        lastPeriod.pass(2);
        looks("as many in the last period", lastPeriod, b -> b.fairReceipt(0, 1000, 1), 1000);
        looks("one more in the last period", lastPeriod, b -> b.fairReceipt(0, 1, 2), LeaseBook.NONE);
    }

    void promise24AtMost1000ThousandthsTogether() {
        LeaseBook book = Books.letOn();
        looks("250 beside 750", book, b -> b.fairReceipt(0, 250, 6), 94);
        looks("251 beside 750", book, b -> b.fairReceipt(0, 251, 6), LeaseBook.NONE);
        book.pass(3);
        looks("750 beside 250", book, b -> b.fairReceipt(0, 750, 3), 281);
        looks("751 beside 250", book, b -> b.fairReceipt(0, 751, 3), LeaseBook.NONE);
    }

    void promise24AtMost12Subleases() {
        LeaseBook book = Books.fullySublet();
        looks("a thirteenth", book, b -> b.fairReceipt(0, 1, 1), LeaseBook.NONE);
        book.pass(1);
        looks("a thirteenth when all have ended", book, b -> b.fairReceipt(0, 1, 1), LeaseBook.NONE);
        book.undo();
        book.undo();
        looks("a twelfth", book, b -> b.fairReceipt(0, 1, 60), 1);
    }

    // ---- promise 25: offShare

    void promise25WithoutLeases() {
        dueShare("a new register", new LeaseBook(), 0.0);
    }

    void promise25LiabilitiesOf0() {
        LeaseBook book = Books.plain(0, 5);
        dueShare("and no receivables", book, 0.0);
        book.sublet(0, 1, 100000, 5);
        dueShare("and receivables", book, 0.0);
        LeaseBook ended = Books.three();
        ended.pass(3);
        dueShare("when all have ended", ended, 0.0);
    }

    void promise25ReceivablesOf0() {
        dueShare("without subleases", Books.three(), 0.0);
        LeaseBook book = Books.three();
        book.sublet(0, 1, 0, 1);
        dueShare("with one", book, 0.0);
    }

    void promise25TheLeastAndTheMost() {
        LeaseBook least = new LeaseBook();
        for (int i = 0; i < 8; i++) {
            least.open(100000, 60, 0, 0);
        }
        least.sublet(7, 1, 1, 1);
        dueShare("1 of 48000000", least, 1.0 / 48000000.0);
        LeaseBook most = Books.largest();
        for (int i = 0; i < 12; i++) {
            most.sublet(0, 1, 100000, 60);
        }
        dueShare("72000000 of 6000000", most, 12.0);
        most.rent(0, 0);
        dueShare("72000000 of 0", most, 0.0);
        most.open(1, 1, 0, 0);
        dueShare("72000000 of 1", most, 72000000.0);
    }

    void promise25AllOfIt() {
        LeaseBook book = Books.plain(3, 1);
        book.sublet(0, 1, 3, 1);
        dueShare("3 of 3", book, 1.0);
        book.sublet(0, 1, 1, 1);
        dueShare("4 of 3", book, 4.0 / 3.0);
    }

    // ---- promise 26: digest

    void promise26ANewRegister() {
        LeaseBook book = new LeaseBook();
        looks("the digest", book, b -> b.digest(), Told.hash(0, 0, 0, 0, 0, 0, 0, 0, 0, -1, 0, 0, 0));
    }

    void promise26LongArithmeticWithOverflow() {
        BigInteger hash = BigInteger.valueOf(2467);
        long[] values = {0, 0, 0, 0, 0, 0, 0, 0, 0, -1, 0, 0, 60};
        for (long value : values) {
            hash = hash.multiply(BigInteger.valueOf(31)).add(BigInteger.valueOf(value));
        }
        for (int i = 0; i < 60; i++) {
            hash = hash.multiply(BigInteger.valueOf(31)).add(BigInteger.valueOf(126));
        }
        due("the hash without overflow is longer than 64 bits", Math.min(hash.bitLength(), 65), 65);
        due("the digest", Books.written("~".repeat(60)).digest(), hash.longValue());
    }

    void promise26TheBufferAlsoIfItIsCleared() {
        LeaseBook book = Books.written("1");
        due("with a character", book.digest(), Told.hash(0, 0, 0, 0, 0, 0, 0, 0, 0, -1, 0, 0, 1, '1'));
        book.clearBuffer();
        due("cleared", book.digest(), Told.hash(0, 0, 0, 0, 0, 0, 0, 0, 0, -1, 0, 0, 0));
    }

    void promise26AnEndedLeaseHasNoneFourTimes() {
        LeaseBook book = Books.plain(1000, 1);
        book.pass(1);
        due("the digest", book.digest(), Told.hash(1, 0, 1, 0, 0, 0, 0, 0, -1000, -1, 2,
                1000, 0, 0, 0, 0, 0, 0, 0, 0,
                1000, 0, 1000, 0, 0, 1000, 1000, 0, 0, 0, 0, 0, 0, 0, 0, 0, 0,
                -1000, -1000, 0, 0, 0, 0, -1, -1, -1, -1, -1, -1, 0, 0));
    }

    void promise26ALeaseThatEndsAheadOf3Periods() {
        LeaseBook book = Books.plain(1000, 2);
        due("the digest", book.digest(), Told.hash(1, 0, 0, 1, 0, 2000, 2000, 0, 0, 0, 1,
                1000, 2, 0, 2000, 2000, 0, 2000, 0, 0,
                2000, 0, 0, 0, 0, 2000, 0, 0, 0, 0, 0, 0, 0, 0, 0, 0, 0,
                0, 0, 0, 0, 0, 0, 12000, 12000, 0, 25000, book.rateWithin(0), 200, 0, 0));
    }

    void promise26TheBitsOfTheLeastAndTheMostShares() {
        LeaseBook least = new LeaseBook();
        for (int i = 0; i < 8; i++) {
            least.open(100000, 60, 0, 0);
        }
        least.sublet(7, 1, 1, 1);
        due("1 of 48000000", least.digest(), Told.digest(least, ""));
        for (int payment = 0; payment <= 1; payment++) {
            LeaseBook most = Books.plain(payment, 1);
            most.open(0, 60, 0, 0);
            for (int i = 0; i < 12; i++) {
                most.sublet(1, 1, 100000, 60);
            }
            due("72000000 of " + payment, most.digest(), Told.digest(most, ""));
        }
    }

    void promise26SharesAtPowersOf2() {
        for (int power = 1; power <= 65536; power *= 2) {
            LeaseBook above = Books.plain(1, 1);
            above.sublet(0, 1, power, 1);
            due(power + " of 1", above.digest(), Told.digest(above, ""));
            above.undo();
            above.sublet(0, 1, power - 1, 1);
            due((power - 1) + " of 1", above.digest(), Told.digest(above, ""));
            LeaseBook below = Books.plain(power, 1);
            below.sublet(0, 1, 1, 1);
            due("1 of " + power, below.digest(), Told.digest(below, ""));
            below.rent(0, power + 1);
            due("1 of " + (power + 1), below.digest(), Told.digest(below, ""));
        }
    }

    private void digestOfAllThatFits(int passed) {
        LeaseBook book = Books.full();
        for (int i = 0; i < 12; i++) {
            book.sublet(i % 8, 1 + i, 500 * i, 1);
        }
        if (passed > 0) {
            book.pass(passed);
        }
        String text = "!".repeat(60);
        Books.write(book, text);
        due("the digest behind " + passed, book.digest(), Told.digest(book, text));
    }

    void promise26EightLeasesTwelveSubleases60Characters6States() {
        digestOfAllThatFits(0);
        digestOfAllThatFits(8);
    }
}
