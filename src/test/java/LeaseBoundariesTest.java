/** The boundaries of promises 1 to 8: a new register, and the calls by which leases change. */
final class LeaseBoundariesTest extends Boundary {
    public static void main(String[] args) {
        new LeaseBoundariesTest().runAll(1, 8);
    }

    private void movementsAre(LeaseBook book, int... want) {
        for (int kind = 0; kind < 17; kind++) {
            due("movement " + kind, book.movement(0, kind), kind < want.length ? want[kind] : 0);
        }
    }

    // ---- promise 1: a new object

    void promise01WithoutLeases() {
        LeaseBook book = new LeaseBook();
        for (int what : new int[] {0, 1, 3, 4, 5, 6, 7, 8}) {
            due("count " + what, book.count(what), 0);
        }
        due("no lease runs", book.count(9), LeaseBook.NONE);
        dueShare("offShare", book, 0.0);
        refused("lease 0", book, b -> b.lease(0, 0), Check.INDEX);
        refused("sublease 0", book, b -> b.sublease(0, 0), Check.INDEX);
    }

    void promise01InThePeriod0() {
        due("count 2", new LeaseBook().count(2), 0);
        due("the first pass", new LeaseBook().pass(1), 1);
    }

    void promise01WithAnEmptyBuffer() {
        LeaseBook book = new LeaseBook();
        looks("firstError", book, b -> b.firstError(), 0);
        looks("clearBuffer", book, b -> b.clearBuffer(), 0);
        refused("openAll", book, b -> b.openAll(), Check.ARGUMENT);
        due("the first append", book.append('1'), 1);
    }

    void promise01WithoutSavedStates() {
        due("count 10", new LeaseBook().count(10), 0);
        refused("undo", new LeaseBook(), b -> b.undo(), Check.STATE);
    }

    void promise01WhateverAnotherObjectHolds() {
        Books.write(Books.full(), "1*1@1");
        Books.fullySublet();
        LeaseBook book = new LeaseBook();
        for (int what = 0; what <= 10; what++) {
            due("count " + what, book.count(what), what == 9 ? -1 : 0);
        }
        due("clearBuffer", book.clearBuffer(), 0);
    }

    void promise01NoneIsMinus1() {
        due("NONE", LeaseBook.NONE, -1);
    }

    // ---- promise 2: open

    void promise02PaymentIs0To100000() {
        takes(0, 100000, LeaseBook::new, (b, n) -> b.open(n, 1, 0, 0));
        due("the highest", Books.plain(100000, 1).lease(0, 0), 100000);
        due("its liability", Books.plain(100000, 1).lease(0, 3), 100000);
        due("the lowest", Books.plain(0, 1).lease(0, 0), 0);
        due("its liability", Books.plain(0, 1).lease(0, 3), 0);
    }

    void promise02PeriodsAre1To60() {
        takes(1, 60, LeaseBook::new, (b, n) -> b.open(1, n, 0, 0));
        due("the fewest", Books.plain(1, 1).lease(0, 1), 1);
        due("the most", Books.plain(1, 60).lease(0, 1), 60);
        due("the liability of the most", Books.plain(1, 60).lease(0, 3), 60);
    }

    void promise02RateIs0To2000() {
        takes(0, 2000, LeaseBook::new, (b, n) -> b.open(1, 1, n, 0));
        due("the highest", Books.three().lease(0, 2), 2000);
        due("the liability by the highest", Books.three().lease(0, 3), 2107);
        due("the lowest", Books.plain(1000, 3).lease(0, 2), 0);
        due("the liability by the lowest", Books.plain(1000, 3).lease(0, 3), 3000);
    }

    void promise02CostIs0To100000() {
        takes(0, 100000, LeaseBook::new, (b, n) -> b.open(1, 1, 0, n));
        movementsAre(Books.largest(), 6000000, 0, 0, 0, 0, 6100000, 0, 0, 0, 0, 0, 0, 0, 0, 0, 100000);
        movementsAre(Books.plain(1, 1), 1, 0, 0, 0, 0, 1);
    }

    void promise02TheLowestNumbersMakeALeaseThatRuns() {
        LeaseBook book = Books.plain(0, 1);
        due("it runs", book.count(3), 1);
        due("its asset", book.lease(0, 4), 0);
        due("it is saved", book.count(10), 1);
    }

    void promise02TheHighestNumbers() {
        LeaseBook book = new LeaseBook();
        book.open(100000, 60, 2000, 100000);
        due("its liability", book.lease(0, 3), 499992);
        due("its asset", book.lease(0, 4), 599992);
    }

    void promise02NumberedFrom0InTheOrderInWhichTheyCame() {
        LeaseBook book = new LeaseBook();
        for (int number = 0; number < 8; number++) {
            int payment = 70 - number;
            due("open", book, b -> b.open(payment, 1, 0, 0), number);
        }
        for (int number = 0; number < 8; number++) {
            due("payment of " + number, book.lease(number, 0), 70 - number);
        }
    }

    void promise02ThereAreAtMost8Leases() {
        LeaseBook book = Books.full();
        due("the eighth one is there", book.count(0), 8);
        refused("a ninth", book, b -> b.open(1, 1, 0, 0), Check.STATE);
        refused("a ninth with the lowest numbers", book, b -> b.open(0, 1, 0, 0), Check.STATE);
    }

    void promise02EndedLeasesAreAmongThe8() {
        LeaseBook book = Books.full();
        book.pass(8);
        due("none runs", book.count(3), 0);
        refused("a ninth", book, b -> b.open(1, 1, 0, 0), Check.STATE);
    }

    void promise02WhenTheEighthIsUndoneThereIsRoom() {
        LeaseBook book = Books.full();
        book.undo();
        due("open again", book, b -> b.open(5, 4, 0, 3), 7);
        due("its payment", book.lease(7, 0), 5);
        refused("a ninth", book, b -> b.open(1, 1, 0, 0), Check.STATE);
    }

    void promise02ALeaseInTheRoomOfAnUndoneOneBeginsAnew() {
        LeaseBook book = Books.largest();
        book.impair(0, 1000000);
        book.pass(60);
        for (int i = 0; i < 3; i++) {
            book.undo();
        }
        due("open", book, b -> b.open(1, 1, 0, 2), 0);
        movementsAre(book, 1, 0, 0, 0, 0, 3, 0, 0, 0, 0, 0, 0, 0, 0, 0, 2);
    }

    void promise02AWrongArgumentComesAheadOf8Leases() {
        refused("payment", Books.full(), b -> b.open(-1, 1, 0, 0), Check.ARGUMENT);
        refused("periods", Books.full(), b -> b.open(0, 0, 0, 0), Check.ARGUMENT);
        refused("rate", Books.full(), b -> b.open(0, 1, 2001, 0), Check.ARGUMENT);
        refused("cost", Books.full(), b -> b.open(0, 1, 0, 100001), Check.ARGUMENT);
    }

    // ---- promise 3: term

    void promise03ThereIsSuchALease() {
        leaseIsThere((b, n) -> b.term(n, 1, 0));
    }

    void promise03PeriodsAre1To60() {
        takes(1, 60, Books::three, (b, n) -> b.term(0, n, 0));
        due("the fewest", Books.three(), b -> b.term(0, 1, 0), 1000);
        due("the most", Books.three(), b -> b.term(0, 60, 0), 60000);
    }

    void promise03RateIs0To2000() {
        takes(0, 2000, Books::three, (b, n) -> b.term(0, 1, n));
        due("the lowest", Books.three(), b -> b.term(0, 2, 0), 2000);
        due("the highest", Books.plain(1000, 3), b -> b.term(0, 2, 2000), 1528);
    }

    void promise03ALeaseInItsLastPeriodRuns() {
        LeaseBook book = Books.three();
        book.pass(2);
        due("term", book, b -> b.term(0, 5, 0), 5000);
    }

    void promise03AnEndedLeaseDoesNotRun() {
        LeaseBook book = Books.three();
        book.pass(3);
        refused("term", book, b -> b.term(0, 5, 0), Check.STATE);
        book.open(1, 1, 0, 0);
        refused("term beside one that runs", book, b -> b.term(0, 5, 0), Check.STATE);
    }

    void promise03NoSuchLeaseComesAheadOfAWrongArgument() {
        refused("periods", Books.three(), b -> b.term(1, 0, 0), Check.INDEX);
        refused("rate", Books.three(), b -> b.term(-1, 1, 2001), Check.INDEX);
    }

    void promise03AWrongArgumentComesAheadOfAnEndedLease() {
        refused("periods", Books.endedAndRunning(), b -> b.term(0, 61, 0), Check.ARGUMENT);
        refused("rate", Books.endedAndRunning(), b -> b.term(0, 1, -1), Check.ARGUMENT);
    }

    void promise03ItIsSavedAlsoIfItChangesNothing() {
        LeaseBook book = Books.three();
        long ahead = book.digest();
        due("term of the same", book, b -> b.term(0, 3, 2000), 2107);
        due("saved states", book.count(10), 2);
        due("undo", book, b -> b.undo(), 1);
        due("the digest", book.digest(), ahead);
    }

    void promise03TheAssetBecomesAtLeast0() {
        int[][] dueBehind = {{999, 1, -2000, -999}, {1000, 0, -2000, -1000}, {1001, 0, -1999, -1000},
            {3000, 0, 0, -1000}};
        for (int[] want : dueBehind) {
            LeaseBook book = Books.plain(1000, 3);
            book.impair(0, want[0]);
            book.term(0, 1, 0);
            due("the asset, impaired by " + want[0], book.lease(0, 4), want[1]);
            due("its change, impaired by " + want[0], book.movement(0, 7), want[2]);
            due("the profit, impaired by " + want[0], book.profit(0, 0), want[3]);
            due("the profit in the other way", book.profit(0, 1), want[3]);
        }
    }

    void promise03AnAssetOf0CanBecomeMore() {
        LeaseBook book = Books.plain(1000, 3);
        book.impair(0, 3000);
        book.term(0, 4, 0);
        due("the asset", book.lease(0, 4), 1000);
    }

    void promise03ASubleaseOfAsManyPeriodsStays() {
        LeaseBook book = Books.letOn();
        book.term(0, 6, 0);
        due("its periods", book.sublease(1, 3), 6);
        due("cut off", book.movement(0, 14), 0);
    }

    void promise03ASubleaseOfMorePeriodsIsCutOff() {
        LeaseBook book = Books.letOn();
        book.term(0, 5, 0);
        due("periods, cut by one", book.sublease(1, 3), 5);
        due("receivable, cut by one", book.sublease(1, 5), 2000);
        due("movement 14, cut by one", book.movement(0, 14), 400);
        book.term(0, 3, 0);
        due("periods of the one that has as many", book.sublease(0, 3), 3);
        due("movement 14, cut to 3", book.movement(0, 14), 1200);
        book.term(0, 1, 0);
        due("periods of both", 10 * book.sublease(0, 3) + book.sublease(1, 3), 11);
        due("movement 14, cut to 1", book.movement(0, 14), 1200 + 800 + 1800);
        book.term(0, 60, 0);
        due("a longer term brings nothing back", 10 * book.sublease(0, 3) + book.sublease(1, 3), 11);
    }

    void promise03AnEndedSubleaseIsNotCutOff() {
        LeaseBook book = Books.letOn();
        book.pass(3);
        book.term(0, 2, 0);
        due("its periods", book.sublease(0, 3), 0);
        due("its receivable", book.sublease(0, 5), 0);
        due("cut off of the other", book.movement(0, 14), 400);
    }

    void promise03ASubleaseOfAnotherLeaseIsNotCutOff() {
        LeaseBook book = Books.letOn();
        book.open(1000, 6, 0, 0);
        book.term(1, 1, 0);
        due("periods", book.sublease(1, 3), 6);
        due("cut off", book.movement(0, 14) + book.movement(1, 14), 0);
    }

    // ---- promise 4: rent

    void promise04ThereIsSuchALease() {
        leaseIsThere((b, n) -> b.rent(n, 1));
    }

    void promise04PaymentIs0To100000() {
        takes(0, 100000, Books::three, (b, n) -> b.rent(0, n));
        due("the lowest", Books.three(), b -> b.rent(0, 0), 0);
        due("the highest", Books.plain(1, 60), b -> b.rent(0, 100000), 6000000);
    }

    void promise04APaymentOf0LeavesTheLeaseRunning() {
        LeaseBook book = Books.three();
        book.rent(0, 0);
        due("leases that run", book.count(3), 1);
        due("rent again", book, b -> b.rent(0, 1000), 2107);
    }

    void promise04ALeaseInItsLastPeriodRuns() {
        LeaseBook book = Books.three();
        book.pass(2);
        due("rent", book, b -> b.rent(0, 2000), 1667);
    }

    void promise04AnEndedLeaseDoesNotRun() {
        refused("rent", Books.endedAndRunning(), b -> b.rent(0, 1), Check.STATE);
        refused("rent of the same", Books.endedAndRunning(), b -> b.rent(0, 1000), Check.STATE);
    }

    void promise04NoSuchLeaseComesAheadOfAWrongArgument() {
        refused("rent", Books.three(), b -> b.rent(1, -1), Check.INDEX);
    }

    void promise04AWrongArgumentComesAheadOfAnEndedLease() {
        refused("rent", Books.endedAndRunning(), b -> b.rent(0, 100001), Check.ARGUMENT);
    }

    void promise04ItIsSavedAlsoIfItChangesNothing() {
        LeaseBook book = Books.three();
        due("rent of the same", book, b -> b.rent(0, 1000), 2107);
        due("saved states", book.count(10), 2);
    }

    void promise04TheAssetBecomesAtLeast0() {
        int[][] dueBehind = {{1499, 1, -1500, -1499}, {1500, 0, -1500, -1500}, {1501, 0, -1499, -1500}};
        for (int[] want : dueBehind) {
            LeaseBook book = Books.plain(1000, 3);
            book.impair(0, want[0]);
            book.rent(0, 500);
            due("the asset, impaired by " + want[0], book.lease(0, 4), want[1]);
            due("its change, impaired by " + want[0], book.movement(0, 7), want[2]);
            due("the profit, impaired by " + want[0], book.profit(0, 0), want[3]);
            due("the profit in the other way", book.profit(0, 1), want[3]);
        }
    }

    void promise04SubleasesStayAsTheyAre() {
        LeaseBook book = Books.letOn();
        book.rent(0, 0);
        due("periods", book.sublease(1, 3), 6);
        due("cut off", book.movement(0, 14), 0);
    }

    // ---- promise 5: endPart

    void promise05ThereIsSuchALease() {
        leaseIsThere((b, n) -> b.endPart(n, 1, 0));
    }

    void promise05ThousandthsAre1To1000() {
        takes(1, 1000, Books::three, (b, n) -> b.endPart(0, n, 0));
    }

    void promise05FeeIs0To100000() {
        takes(0, 100000, Books::three, (b, n) -> b.endPart(0, 1, n));
        LeaseBook book = Books.plain(0, 1);
        due("the lowest fee", book, b -> b.endPart(0, 1, 0), 0);
        due("the highest fee", book, b -> b.endPart(0, 1, 100000), -100000);
        due("movement 16", book.movement(0, 16), 100000);
    }

    void promise05BelowZeroForALoss() {
        due("a loss of the fee", Books.plain(0, 1), b -> b.endPart(0, 1, 1), -1);
        due("a loss of the asset", Books.three(), b -> b.endPart(0, 1000, 0), -100);
        LeaseBook gain = Books.plain(1000, 2);
        gain.impair(0, 2000);
        due("a gain", gain, b -> b.endPart(0, 500, 0), 1000);
    }

    void promise05APartIsRoundedDown() {
        LeaseBook less = Books.plain(999, 1);
        due("of 999", less, b -> b.endPart(0, 1, 0), 0);
        due("the payment stays", less.lease(0, 0), 999);
        due("the asset stays", less.lease(0, 4), 999);
        due("it is saved though it changes nothing", less.count(10), 2);
        LeaseBook enough = Books.plain(1000, 1);
        enough.endPart(0, 1, 0);
        due("the payment of 1000", enough.lease(0, 0), 999);
        due("the asset of 1000", enough.lease(0, 4), 999);
    }

    void promise05AllOfItEndsAndTheLeaseRunsOn() {
        LeaseBook book = Books.three();
        book.endPart(0, 1000, 0);
        due("payment", book.lease(0, 0), 0);
        due("liability", book.lease(0, 3), 0);
        due("asset", book.lease(0, 4), 0);
        due("periods", book.lease(0, 1), 3);
        due("leases that run", book.count(3), 1);
        movementsAre(book, 2107, 0, 0, 0, 2107, 2207, 0, 0, 2207, 0, 0, 0, 0, 0, 0, 100);
        due("profit by movements", book.profit(0, 0), -100);
        due("profit by what there is", book.profit(0, 1), -100);
    }

    void promise05TheHighestNumbersDoNotWrapAround() {
        LeaseBook book = Books.largest();
        due("endPart", book, b -> b.endPart(0, 999, 100000), 5994000 - 6093900 - 100000);
        due("payment", book.lease(0, 0), 100);
        due("asset", book.lease(0, 4), 6100);
    }

    void promise05ALeaseInItsLastPeriodRuns() {
        LeaseBook book = Books.plain(1000, 3);
        book.pass(2);
        due("endPart", book, b -> b.endPart(0, 500, 7), -7);
    }

    void promise05AnEndedLeaseDoesNotRun() {
        refused("endPart", Books.endedAndRunning(), b -> b.endPart(0, 1, 0), Check.STATE);
    }

    void promise05ASubleaseOfItRuns() {
        LeaseBook book = Books.plain(1000, 3);
        book.sublet(0, 1, 0, 2);
        refused("endPart", book, b -> b.endPart(0, 1, 0), Check.STATE);
        book.pass(1);
        refused("endPart in the last period of the sublease", book, b -> b.endPart(0, 1, 0), Check.STATE);
    }

    void promise05AnEndedSubleaseDoesNotRun() {
        LeaseBook book = Books.plain(1000, 3);
        book.sublet(0, 1000, 0, 2);
        book.pass(2);
        due("endPart", book, b -> b.endPart(0, 500, 0), 500);
    }

    void promise05ASubleaseOfAnotherLeaseDoesNotMatter() {
        LeaseBook book = Books.letOn();
        book.open(1000, 1, 0, 0);
        due("endPart", book, b -> b.endPart(1, 500, 0), 0);
        refused("endPart of the one that is sublet", book, b -> b.endPart(0, 500, 0), Check.STATE);
    }

    void promise05NoSuchLeaseComesAheadOfAWrongArgument() {
        refused("thousandths", Books.three(), b -> b.endPart(1, 0, 0), Check.INDEX);
        refused("fee", Books.three(), b -> b.endPart(1, 1, -1), Check.INDEX);
    }

    void promise05AWrongArgumentComesAheadOfTheState() {
        refused("thousandths, ended", Books.endedAndRunning(), b -> b.endPart(0, 1001, 0), Check.ARGUMENT);
        refused("fee, ended", Books.endedAndRunning(), b -> b.endPart(0, 1, 100001), Check.ARGUMENT);
        refused("thousandths, sublet", Books.letOn(), b -> b.endPart(0, 0, 0), Check.ARGUMENT);
        refused("fee, sublet", Books.letOn(), b -> b.endPart(0, 1, -1), Check.ARGUMENT);
    }

    // ---- promise 6: impair

    void promise06ThereIsSuchALease() {
        leaseIsThere((b, n) -> b.impair(n, 1));
    }

    void promise06AmountIs1To1000000() {
        takes(1, 1000000, Books::largest, (b, n) -> b.impair(0, n));
        due("the lowest", Books.largest(), b -> b.impair(0, 1), 6099999);
        due("the highest", Books.largest(), b -> b.impair(0, 1000000), 5100000);
    }

    void promise06ItsAssetIsLessThanThat() {
        refused("one more than the asset", Books.three(), b -> b.impair(0, 2208), Check.STATE);
        refused("the highest", Books.three(), b -> b.impair(0, 1000000), Check.STATE);
        due("the asset", Books.three(), b -> b.impair(0, 2207), 0);
        due("one less than the asset", Books.three(), b -> b.impair(0, 2206), 1);
    }

    void promise06AnAssetOf0() {
        LeaseBook book = Books.three();
        book.impair(0, 2207);
        refused("the lowest", book, b -> b.impair(0, 1), Check.STATE);
    }

    void promise06AnEndedLeaseHasNoAsset() {
        refused("impair", Books.endedAndRunning(), b -> b.impair(0, 1), Check.STATE);
    }

    void promise06NoSuchLeaseComesAheadOfAWrongArgument() {
        refused("impair", Books.three(), b -> b.impair(1, 0), Check.INDEX);
    }

    void promise06AWrongArgumentComesAheadOfTheAsset() {
        refused("more than the highest", Books.three(), b -> b.impair(0, 1000001), Check.ARGUMENT);
        refused("0 of an ended lease", Books.endedAndRunning(), b -> b.impair(0, 0), Check.ARGUMENT);
    }

    // ---- promise 7: sublet

    void promise07ThereIsSuchALease() {
        leaseIsThere((b, n) -> b.sublet(n, 1, 1, 1));
    }

    void promise07ThousandthsAre1To1000() {
        takes(1, 1000, Books::three, (b, n) -> b.sublet(0, n, 1, 1));
    }

    void promise07ReceiptIs0To100000() {
        takes(0, 100000, Books::three, (b, n) -> b.sublet(0, 1, n, 1));
        LeaseBook book = Books.plain(1000, 60);
        book.sublet(0, 1, 0, 60);
        book.sublet(0, 1, 100000, 60);
        due("the lowest receivable", book.sublease(0, 5), 0);
        due("the highest receivable", book.sublease(1, 5), 6000000);
    }

    void promise07PeriodsAre1To60() {
        takes(1, 60, () -> Books.plain(1000, 60), (b, n) -> b.sublet(0, 1, 1, n));
    }

    void promise07AtMostAsManyPeriodsAsTheLeaseHas() {
        due("as many", Books.three(), b -> b.sublet(0, 1, 1, 3), 0);
        refused("one more", Books.three(), b -> b.sublet(0, 1, 1, 4), Check.STATE);
        refused("the most", Books.three(), b -> b.sublet(0, 1, 1, 60), Check.STATE);
        LeaseBook later = Books.three();
        later.pass(2);
        refused("one more in the last period", later, b -> b.sublet(0, 1, 1, 2), Check.STATE);
        due("as many in the last period", later, b -> b.sublet(0, 1, 1, 1), 0);
    }

    void promise07AnEndedLeaseDoesNotRun() {
        refused("sublet", Books.endedAndRunning(), b -> b.sublet(0, 1, 1, 1), Check.STATE);
    }

    void promise07AtMost1000ThousandthsTogether() {
        LeaseBook book = Books.three();
        due("999", book, b -> b.sublet(0, 999, 1, 1), 0);
        refused("2 beside 999", book, b -> b.sublet(0, 2, 1, 1), Check.STATE);
        refused("1000 beside 999", book, b -> b.sublet(0, 1000, 1, 1), Check.STATE);
        due("1 beside 999", book, b -> b.sublet(0, 1, 1, 1), 1);
        refused("1 beside 1000", book, b -> b.sublet(0, 1, 1, 1), Check.STATE);
    }

    void promise07AnEndedSubleaseTakesNothing() {
        LeaseBook book = Books.three();
        book.sublet(0, 1000, 1, 2);
        book.pass(1);
        refused("in its last period", book, b -> b.sublet(0, 1, 1, 1), Check.STATE);
        book.pass(1);
        due("behind its last period", book, b -> b.sublet(0, 1000, 1, 1), 1);
    }

    void promise07ASubleaseOfAnotherLeaseTakesNothing() {
        LeaseBook book = Books.three();
        book.open(1000, 3, 0, 0);
        book.sublet(0, 1000, 1, 1);
        due("sublet", book, b -> b.sublet(1, 1000, 1, 1), 1);
    }

    void promise07ThereAreAtMost12Subleases() {
        LeaseBook book = Books.plain(1000, 60);
        for (int number = 0; number < 12; number++) {
            due("sublet", book, b -> b.sublet(0, 1, 1, 1), number);
        }
        refused("a thirteenth", book, b -> b.sublet(0, 1, 1, 1), Check.STATE);
        book.undo();
        due("again, when the twelfth is undone", book, b -> b.sublet(0, 2, 3, 4), 11);
        refused("a thirteenth again", book, b -> b.sublet(0, 1, 1, 1), Check.STATE);
    }

    void promise07SubleasesOfAllLeasesAreAmongThe12() {
        LeaseBook book = Books.fullySublet();
        book.open(1, 1, 0, 0);
        refused("a thirteenth, of another lease", book, b -> b.sublet(1, 1, 1, 1), Check.STATE);
    }

    void promise07EndedSubleasesAreAmongThe12() {
        LeaseBook book = Books.fullySublet();
        book.pass(1);
        due("none runs", book.count(4), 0);
        refused("a thirteenth", book, b -> b.sublet(0, 1, 1, 1), Check.STATE);
    }

    void promise07APartIsRoundedDown() {
        LeaseBook book = Books.plain(999, 1);
        book.sublet(0, 1, 1, 1);
        due("a thousandth of 999", book.lease(0, 4), 999);
        LeaseBook enough = Books.plain(1000, 1);
        enough.sublet(0, 1, 1, 1);
        due("a thousandth of 1000", enough.lease(0, 4), 999);
    }

    void promise07TheHighestNumbersDoNotWrapAround() {
        LeaseBook book = Books.largest();
        book.sublet(0, 999, 100000, 60);
        due("the asset", book.lease(0, 4), 6100);
        movementsAre(book, 6000000, 0, 0, 0, 0, 6100000, 0, 0, 0, 6093900, 0, 6000000, 0, 0, 0, 100000);
    }

    void promise07AllOfItIsSublet() {
        LeaseBook book = Books.three();
        book.sublet(0, 1000, 0, 3);
        due("the asset", book.lease(0, 4), 0);
        due("the profit", book.profit(0, 0), -2207);
    }

    void promise07NoSuchLeaseComesAheadOfAWrongArgument() {
        refused("thousandths", Books.three(), b -> b.sublet(1, 0, 0, 1), Check.INDEX);
        refused("receipt", Books.three(), b -> b.sublet(1, 1, -1, 1), Check.INDEX);
        refused("periods", Books.three(), b -> b.sublet(1, 1, 1, 0), Check.INDEX);
    }

    void promise07AWrongArgumentComesAheadOfTheState() {
        refused("thousandths, ended", Books.endedAndRunning(), b -> b.sublet(0, 1001, 1, 1), Check.ARGUMENT);
        refused("receipt, ended", Books.endedAndRunning(), b -> b.sublet(0, 1, 100001, 1), Check.ARGUMENT);
        refused("periods, ended", Books.endedAndRunning(), b -> b.sublet(0, 1, 1, 0), Check.ARGUMENT);
        refused("periods, more than the lease has", Books.three(), b -> b.sublet(0, 1, 1, 61), Check.ARGUMENT);
        refused("thousandths, 12 subleases", Books.fullySublet(), b -> b.sublet(0, 0, 1, 1), Check.ARGUMENT);
    }

    // ---- promise 8: pass

    void promise08PeriodsAre1To60() {
        takes(1, 60, Books::three, (b, n) -> b.pass(n));
        due("the fewest", Books.three(), b -> b.pass(1), 1);
        due("the most", Books.three(), b -> b.pass(60), 60);
    }

    void promise08WithoutLeases() {
        due("pass", new LeaseBook(), b -> b.pass(60), 60);
    }

    void promise08TheNumberIsAtMost2000() {
        due("60 to 2000", Books.inPeriod(1940), b -> b.pass(60), 2000);
        refused("60 to 2020", Books.inPeriod(1960), b -> b.pass(60), Check.STATE);
        LeaseBook book = Books.inPeriod(1980);
        refused("21 to 2001", book, b -> b.pass(21), Check.STATE);
        due("19 to 1999", book, b -> b.pass(19), 1999);
        refused("2 to 2001", book, b -> b.pass(2), Check.STATE);
        due("1 to 2000", book, b -> b.pass(1), 2000);
        refused("1 to 2001", book, b -> b.pass(1), Check.STATE);
        book.undo();
        due("1 to 2000 again, when it is undone", book, b -> b.pass(1), 2000);
    }

    void promise08AWrongArgumentComesAheadOf2000() {
        for (int periods : outside(1, 60)) {
            refused(periods + " in 2000", Books.inPeriod(2000), b -> b.pass(periods), Check.ARGUMENT);
        }
    }

    void promise08OneLessThanIsLeft() {
        LeaseBook book = Books.three();
        book.pass(2);
        due("periods", book.lease(0, 1), 1);
        due("liability", book.lease(0, 3), 833);
        due("it runs", book.count(3), 1);
    }

    void promise08AsManyAsAreLeft() {
        LeaseBook book = Books.three();
        book.pass(3);
        due("periods", book.lease(0, 1), 0);
        due("it runs no longer", book.count(3), 0);
        movementsAre(book, 2107, 893, 3000, 0, 0, 2207, 2207, 0, 0, 0, 0, 0, 0, 0, 0, 100);
    }

    void promise08MoreThanAreLeft() {
        LeaseBook book = Books.three();
        book.pass(60);
        due("periods", book.lease(0, 1), 0);
        due("liability", book.lease(0, 3), 0);
        due("asset", book.lease(0, 4), 0);
        movementsAre(book, 2107, 893, 3000, 0, 0, 2207, 2207, 0, 0, 0, 0, 0, 0, 0, 0, 100);
    }

    void promise08AnEndedLeaseDoesNotRun() {
        LeaseBook book = Books.three();
        book.pass(3);
        book.pass(60);
        movementsAre(book, 2107, 893, 3000, 0, 0, 2207, 2207, 0, 0, 0, 0, 0, 0, 0, 0, 100);
        due("periods", book.lease(0, 1), 0);
    }

    void promise08AllThatIsLeftIsWrittenOffInTheLastPeriod() {
        LeaseBook book = new LeaseBook();
        book.open(0, 3, 0, 2);
        int[] assets = {2, 1, 0, 0};
        for (int asset : assets) {
            book.pass(1);
            due("behind " + book.count(2), book.lease(0, 4), asset);
        }
        LeaseBook atOnce = new LeaseBook();
        atOnce.open(0, 3, 0, 2);
        atOnce.pass(2);
        due("behind 2 at once", atOnce.lease(0, 4), 1);
    }

    void promise08ASubleaseEndsAheadOfItsLease() {
        LeaseBook book = Books.letOn();
        book.pass(4);
        due("its periods", book.sublease(0, 3), 0);
        due("its receivable", book.sublease(0, 5), 0);
        due("had", book.movement(0, 13), 3 * 900 + 4 * 400);
        due("interest without a rate", book.movement(0, 12), 0);
        book.pass(60);
        due("had at last", book.movement(0, 13), 3 * 900 + 6 * 400);
    }

    void promise08SubleasesInterestOfTheLastPeriod() {
        LeaseBook book = Books.three();
        book.sublet(0, 1, 1000, 1);
        book.pass(1);
        due("interest", book.movement(0, 12), 167);
        book.pass(1);
        due("none behind it", book.movement(0, 12), 167);
    }

    void promise08UndoableAsOneCall() {
        LeaseBook book = Books.three();
        long ahead = book.digest();
        book.pass(60);
        due("saved states", book.count(10), 2);
        due("undo", book, b -> b.undo(), 1);
        due("the digest", book.digest(), ahead);
    }
}
