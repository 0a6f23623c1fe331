/** The boundaries of promises 14 to 18: the looks. */
final class LookBoundariesTest extends Boundary {
    public static void main(String[] args) {
        new LookBoundariesTest().runAll(14, 18);
    }

    private void propertiesAre(LeaseBook book, int lease, int... want) {
        for (int what = 0; what <= 8; what++) {
            int asked = what;
            looks("lease " + lease + ", what " + what, book, b -> b.lease(lease, asked), want[what]);
        }
    }

    private void countsAre(LeaseBook book, int... want) {
        for (int what = 0; what <= 10; what++) {
            int asked = what;
            looks("count " + what, book, b -> b.count(asked), want[what]);
        }
    }

    // ---- promise 14: lease

    void promise14ThereIsSuchALease() {
        leaseIsThere((b, n) -> b.lease(n, 0));
    }

    void promise14WhatIs0To8() {
        takes(0, 8, Books::three, (b, n) -> b.lease(0, n));
        refused("9 of an ended lease", Books.endedAndRunning(), b -> b.lease(0, 9), Check.ARGUMENT);
    }

    void promise14NoSuchLeaseComesAheadOfAWrongWhat() {
        refused("lease", Books.three(), b -> b.lease(1, 9), Check.INDEX);
        refused("lease", new LeaseBook(), b -> b.lease(0, -1), Check.INDEX);
    }

    void promise14ALeaseWithoutSubleases() {
        propertiesAre(Books.three(), 0, 1000, 3, 2000, 2107, 2207, 0, 2107, 0, 0);
    }

    void promise14AnEndedLease() {
        LeaseBook book = Books.three();
        book.sublet(0, 500, 10, 3);
        book.pass(3);
        propertiesAre(book, 0, 1000, 0, 2000, 0, 0, 0, 0, 0, 0);
    }

    void promise14ALeaseAndASubleaseInTheirLastPeriod() {
        LeaseBook book = Books.plain(1000, 3);
        book.sublet(0, 500, 10, 3);
        book.pass(2);
        propertiesAre(book, 0, 1000, 1, 0, 1000, 500, 10, 990, 500, 1);
    }

    void promise14AnEndedSubleaseTakesNothing() {
        LeaseBook book = Books.letOn();
        book.pass(3);
        propertiesAre(book, 0, 1000, 3, 0, 3000, 1125, 1200, 1800, 250, 1);
        book.pass(2);
        propertiesAre(book, 0, 1000, 1, 0, 1000, 375, 400, 600, 250, 1);
    }

    void promise14LiabilityLessReceivablesCanBeBelow0() {
        LeaseBook book = Books.plain(1, 1);
        book.sublet(0, 1, 100000, 1);
        propertiesAre(book, 0, 1, 1, 0, 1, 1, 100000, -99999, 1, 1);
    }

    void promise14AllThousandthsAndAllSubleases() {
        LeaseBook book = Books.plain(1000, 1);
        for (int i = 0; i < 11; i++) {
            book.sublet(0, 1, 0, 1);
        }
        book.sublet(0, 989, 0, 1);
        due("thousandths", book.lease(0, 7), 1000);
        due("subleases", book.lease(0, 8), 12);
    }

    // ---- promise 15: sublease

    void promise15ThereIsSuchASublease() {
        refused("sublease 0 of none", Books.three(), b -> b.sublease(0, 0), Check.INDEX);
        for (int number : outside(0, 11)) {
            refused("sublease " + number + " of 12", Books.fullySublet(), b -> b.sublease(number, 0), Check.INDEX);
        }
        refused("sublease 2 of 2", Books.letOn(), b -> b.sublease(2, 0), Check.INDEX);
        due("sublease 1 of 2", Books.letOn(), b -> b.sublease(1, 1), 250);
        due("sublease 11 of 12", Books.fullySublet(), b -> b.sublease(11, 1), 1);
    }

    void promise15WhenTheTwelfthIsUndoneItIsNotThere() {
        LeaseBook book = Books.fullySublet();
        book.undo();
        refused("sublease 11", book, b -> b.sublease(11, 0), Check.INDEX);
        due("sublease 10", book, b -> b.sublease(10, 1), 1);
    }

    void promise15WhatIs0To5() {
        takes(0, 5, Books::letOn, (b, n) -> b.sublease(0, n));
    }

    void promise15NoSuchSubleaseComesAheadOfAWrongWhat() {
        refused("sublease", Books.letOn(), b -> b.sublease(2, 6), Check.INDEX);
        refused("sublease", Books.letOn(), b -> b.sublease(-1, -1), Check.INDEX);
    }

    void promise15AnEndedSubleaseIsStillThere() {
        LeaseBook book = Books.letOn();
        book.pass(6);
        int[][] want = {{0, 500, 900, 0, 0, 0}, {0, 250, 400, 0, 0, 0}};
        for (int number = 0; number < 2; number++) {
            for (int what = 0; what <= 5; what++) {
                due("sublease " + number + ", what " + what, book.sublease(number, what), want[number][what]);
            }
        }
    }

    void promise15ItChangesNothing() {
        looks("sublease", Books.letOn(), b -> b.sublease(1, 5), 2400);
    }

    // ---- promise 16: movement

    void promise16ThereIsSuchALease() {
        leaseIsThere((b, n) -> b.movement(n, 0));
    }

    void promise16KindIs0To16() {
        takes(0, 16, Books::three, (b, n) -> b.movement(0, n));
    }

    void promise16NoSuchLeaseComesAheadOfAWrongKind() {
        refused("movement", Books.three(), b -> b.movement(1, 17), Check.INDEX);
        refused("movement", Books.three(), b -> b.movement(-1, -1), Check.INDEX);
    }

    void promise16ASumWithoutMovementsIs0() {
        LeaseBook book = Books.plain(0, 1);
        for (int kind = 0; kind <= 16; kind++) {
            int asked = kind;
            looks("movement " + kind, book, b -> b.movement(0, asked), 0);
        }
    }

    void promise16CanBeBelow0ForTheKinds3And7() {
        LeaseBook book = Books.plain(1000, 3);
        book.rent(0, 0);
        due("movement 3", book.movement(0, 3), -3000);
        due("movement 7", book.movement(0, 7), -3000);
        book.rent(0, 1000);
        due("movement 3, there and back", book.movement(0, 3), 0);
        due("movement 7, there and back", book.movement(0, 7), 0);
    }

    /** As much as 504 calls can bring together. */
    void promise16TheHighestSumsDoNotWrapAround() {
        LeaseBook book = Books.plain(100000, 60);
        for (int i = 0; i < 250; i++) {
            book.endPart(0, 1000, 0);
            book.rent(0, 100000);
        }
        for (int kind : new int[] {3, 4, 7, 8}) {
            due("movement " + kind, book.movement(0, kind), 1500000000);
        }
    }

    void promise16AnEndedLeaseKeepsItsMovements() {
        LeaseBook book = Books.three();
        book.pass(60);
        book.pass(60);
        due("movement 0", book.movement(0, 0), 2107);
        due("movement 2", book.movement(0, 2), 3000);
        due("movement 6", book.movement(0, 6), 2207);
    }

    void promise16WhatIsUndoneIsNoMovement() {
        LeaseBook book = Books.three();
        book.impair(0, 7);
        book.undo();
        due("movement 10", book.movement(0, 10), 0);
    }

    // ---- promise 17: profit

    void promise17ThereIsSuchALease() {
        leaseIsThere((b, n) -> b.profit(n, 0));
        leaseIsThere((b, n) -> b.profit(n, 1));
    }

    void promise17WayIs0Or1() {
        takes(0, 1, Books::three, (b, n) -> b.profit(0, n));
    }

    void promise17NoSuchLeaseComesAheadOfAWrongWay() {
        refused("profit", Books.three(), b -> b.profit(1, 2), Check.INDEX);
        refused("profit", Books.three(), b -> b.profit(-1, -1), Check.INDEX);
    }

    void promise17OpeningBringsNoProfit() {
        looks("by movements", Books.largest(), b -> b.profit(0, 0), 0);
        looks("by what there is", Books.largest(), b -> b.profit(0, 1), 0);
    }

    void promise17BothWaysWhenALeaseHasEnded() {
        LeaseBook book = Books.three();
        book.pass(60);
        due("by movements", book.profit(0, 0), -3100);
        due("by what there is", book.profit(0, 1), -3100);
    }

    void promise17BothWaysAboveZero() {
        LeaseBook book = Books.plain(1, 1);
        book.sublet(0, 1000, 100000, 1);
        due("by movements", book.profit(0, 0), 99999);
        due("by what there is", book.profit(0, 1), 99999);
    }

    // ---- promise 18: count

    void promise18WhatIs0To10() {
        takes(0, 10, Books::three, (b, n) -> b.count(n));
        takes(0, 10, LeaseBook::new, (b, n) -> b.count(n));
    }

    void promise18ANewRegister() {
        countsAre(new LeaseBook(), 0, 0, 0, 0, 0, 0, 0, 0, 0, -1, 0);
    }

    void promise18NoneIfNoLeaseRuns() {
        LeaseBook book = Books.three();
        book.pass(2);
        due("in the last period", book.count(9), 0);
        book.pass(1);
        due("behind it", book.count(9), LeaseBook.NONE);
        countsAre(book, 1, 0, 3, 0, 0, 0, 0, 0, -3100, -1, 3);
    }

    void promise18OfSeveralTheLowestNumber() {
        LeaseBook book = new LeaseBook();
        book.open(1, 60, 0, 0);
        due("60 periods", book.count(9), 0);
        book.open(1, 60, 0, 0);
        due("60 periods each", book.count(9), 0);
        book.open(1, 59, 0, 0);
        book.open(1, 59, 0, 0);
        due("one period less", book.count(9), 2);
        book.open(1, 1, 0, 0);
        due("one period left", book.count(9), 4);
        book.pass(1);
        due("one has ended", book.count(9), 2);
        book.pass(58);
        due("two have ended", book.count(9), 0);
    }

    void promise18TheMostLeases() {
        LeaseBook book = new LeaseBook();
        for (int i = 0; i < 8; i++) {
            book.open(100000, 60, 0, 100000);
        }
        countsAre(book, 8, 0, 0, 8, 0, 48000000, 48800000, 0, 0, 0, 6);
        book.pass(60);
        countsAre(book, 8, 0, 60, 0, 0, 0, 0, 0, -48800000, -1, 6);
    }

    void promise18TheMostSubleases() {
        LeaseBook book = Books.largest();
        for (int i = 0; i < 12; i++) {
            book.sublet(0, 1, 100000, 60);
        }
        due("subleases", book.count(1), 12);
        due("subleases that run", book.count(4), 12);
        due("receivables", book.count(7), 72000000);
        book.pass(59);
        due("subleases that run in the last period", book.count(4), 12);
        book.pass(1);
        due("subleases that run behind it", book.count(4), 0);
        due("subleases", book.count(1), 12);
        due("receivables behind it", book.count(7), 0);
    }

    void promise18TheLastPeriod() {
        due("count 2", Books.inPeriod(2000).count(2), 2000);
    }

    void promise18SavedStatesAre0To6() {
        LeaseBook book = Books.plain(1000, 1);
        int[] want = {2, 3, 4, 5, 6, 6, 6};
        for (int saved : want) {
            book.impair(0, 1);
            due("count 10", book.count(10), saved);
        }
        for (int left = 5; left >= 0; left--) {
            book.undo();
            due("count 10", book.count(10), left);
        }
    }
}
