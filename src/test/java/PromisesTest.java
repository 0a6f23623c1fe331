/**
 * Every promise by numbers reckoned by hand. By a rate of 2000, payments of 1000 are worth
 * 833, 1528 (1527.5 rounded up), 2107 for one, two, three periods.
 */
final class PromisesTest {
    private static final Check CHECK = new Check();

    private PromisesTest() {
    }

    public static void main(String[] args) {
        newObject();
        open();
        term();
        termCutsSubleases();
        rent();
        rentBelowTheAsset();
        endPart();
        impair();
        sublet();
        subletTakesNoMore();
        pass();
        passEndsAt2000();
        append();
        clearBuffer();
        firstError();
        openAll();
        openAllRefuses();
        undo();
        undoOfEachCall();
        lease();
        sublease();
        movement();
        profit();
        count();
        worth();
        plan();
        ifMeasured();
        paymentFor();
        rateWithin();
        fairReceipt();
        offShare();
        digest();
        digestOfShares();
        orderOfExceptions();
        CHECK.end("PromisesTest");
    }

    private static void due(String call, long got, long want) {
        CHECK.due(call, got, want);
    }

    private static void movements(String name, LeaseBook book, int lease, int... want) {
        for (int kind = 0; kind < want.length; kind++) {
            due(name + ": movement " + kind, book.movement(lease, kind), want[kind]);
        }
    }

    private static void newObject() {
        LeaseBook book = new LeaseBook();
        due("NONE", LeaseBook.NONE, -1);
        for (int what = 0; what <= 10; what++) {
            due("new: count " + what, book.count(what), what == 9 ? -1 : 0);
        }
        due("new: firstError", book.firstError(), 0);
        due("new: clearBuffer", book.clearBuffer(), 0);
        CHECK.throwing("new: undo", () -> book.undo(), Check.STATE);
        CHECK.throwing("new: lease 0", () -> book.lease(0, 0), Check.INDEX);
        CHECK.throwing("new: sublease 0", () -> book.sublease(0, 0), Check.INDEX);
    }

    private static void open() {
        LeaseBook book = new LeaseBook();
        due("open the first", book.open(1000, 3, 2000, 100), 0);
        due("open with the highest numbers", book.open(100000, 60, 2000, 100000), 1);
        due("open with the lowest numbers", book.open(0, 1, 0, 0), 2);
        due("open: liability", book.lease(0, 3), 2107);
        due("open: asset", book.lease(0, 4), 2207);
        due("open: saved states", book.count(10), 3);
        movements("open", book, 0, 2107, 0, 0, 0, 0, 2207, 0, 0, 0, 0, 0, 0, 0, 0, 0, 100, 0);
        int[][] wrong = {{-1, 1, 0, 0}, {100001, 1, 0, 0}, {0, 0, 0, 0}, {0, 61, 0, 0}, {0, 1, -1, 0},
            {0, 1, 2001, 0}, {0, 1, 0, -1}, {0, 1, 0, 100001}};
        for (int[] a : wrong) {
            CHECK.throwing("open with a wrong number", () -> book.open(a[0], a[1], a[2], a[3]), Check.ARGUMENT);
        }
        due("open: leases behind wrong ones", book.count(0), 3);
        due("open: saved states behind wrong ones", book.count(10), 3);
        CHECK.throwing("open a ninth", () -> Books.full().open(1, 1, 0, 0), Check.STATE);
        LeaseBook again = Books.three();
        again.impair(0, 7);
        again.undo();
        again.undo();
        again.open(1, 2, 0, 3);
        movements("open behind an undo", again, 0, 2, 0, 0, 0, 0, 5, 0, 0, 0, 0, 0, 0, 0, 0, 0, 3, 0);
    }

    private static void term() {
        LeaseBook book = Books.three();
        due("term", book.term(0, 2, 0), 2000);
        due("term: periods", book.lease(0, 1), 2);
        due("term: rate", book.lease(0, 2), 0);
        due("term: asset", book.lease(0, 4), 2100);
        movements("term", book, 0, 2107, 0, 0, -107, 0, 2207, 0, -107);
        due("term of the same saves too", book.term(0, 2, 0), 2000);
        due("term: saved states", book.count(10), 3);
        due("term of 60 periods", book.term(0, 60, 0), 60000);
        due("term by 2000", book.term(0, 1, 2000), 833);
        CHECK.throwing("term of no lease", () -> book.term(1, 1, 0), Check.INDEX);
        CHECK.throwing("term of -1", () -> book.term(-1, 1, 0), Check.INDEX);
        CHECK.throwing("term of 0 periods", () -> book.term(0, 0, 0), Check.ARGUMENT);
        CHECK.throwing("term of 61 periods", () -> book.term(0, 61, 0), Check.ARGUMENT);
        CHECK.throwing("term by -1", () -> book.term(0, 1, -1), Check.ARGUMENT);
        CHECK.throwing("term by 2001", () -> book.term(0, 1, 2001), Check.ARGUMENT);
        book.pass(1);
        CHECK.throwing("term of an ended lease", () -> book.term(0, 1, 0), Check.STATE);
    }

    private static void termCutsSubleases() {
        LeaseBook book = Books.letOn();
        due("term that cuts", book.term(0, 4, 0), 4000);
        due("cut: the short one stays", book.sublease(0, 3), 3);
        due("cut: the long one", book.sublease(1, 3), 4);
        due("cut: its receivable", book.sublease(1, 5), 1600);
        due("cut: movement 14", book.movement(0, 14), 800);
        book.term(0, 60, 100);
        due("a longer term cuts nothing", book.sublease(1, 3), 4);
        due("a sublease keeps its rate", book.sublease(1, 4), 0);
        LeaseBook two = Books.letOn();
        two.open(5, 6, 0, 0);
        two.sublet(1, 1, 7, 6);
        two.term(0, 1, 0);
        due("cut: another lease's sublease stays", two.sublease(2, 3), 6);
        due("cut: both, movement 14", two.movement(0, 14), 1800 + 2000);
        due("cut: no loss of the other lease", two.movement(1, 14), 0);
    }

    private static void rent() {
        LeaseBook book = Books.three();
        due("rent", book.rent(0, 2000), 4213);
        due("rent: payment", book.lease(0, 0), 2000);
        due("rent: periods", book.lease(0, 1), 3);
        due("rent: asset", book.lease(0, 4), 4313);
        movements("rent", book, 0, 2107, 0, 0, 2106, 0, 2207, 0, 2106);
        due("rent of the highest", book.rent(0, 100000), 210648);
        due("rent: saved states", book.count(10), 3);
        CHECK.throwing("rent of no lease", () -> book.rent(1, 1), Check.INDEX);
        CHECK.throwing("rent of -1", () -> book.rent(0, -1), Check.ARGUMENT);
        CHECK.throwing("rent of 100001", () -> book.rent(0, 100001), Check.ARGUMENT);
        book.pass(3);
        CHECK.throwing("rent of an ended lease", () -> book.rent(0, 1), Check.STATE);
    }

    private static void rentBelowTheAsset() {
        LeaseBook book = new LeaseBook();
        book.open(1000, 3, 0, 0);
        book.impair(0, 2900);
        due("rent of nothing", book.rent(0, 0), 0);
        due("the asset becomes at least 0", book.lease(0, 4), 0);
        movements("below the asset", book, 0, 3000, 0, 0, -3000, 0, 3000, 0, -100, 0, 0, 2900);
        due("what it cannot take is profit", book.profit(0, 0), 0);
        due("the same by what there is", book.profit(0, 1), 0);
    }

    private static void endPart() {
        LeaseBook book = Books.three();
        due("endPart", book.endPart(0, 333, 50), 2107 - 1405 - 734 - 50);
        due("endPart: payment", book.lease(0, 0), 667);
        due("endPart: liability", book.lease(0, 3), 1405);
        due("endPart: asset", book.lease(0, 4), 2207 - 734);
        due("endPart: movement 4", book.movement(0, 4), 2107 - 1405);
        due("endPart: movement 8", book.movement(0, 8), 734);
        due("endPart: movement 16", book.movement(0, 16), 50);
        due("endPart: profit", book.profit(0, 0), 2107 - 1405 - 734 - 50);
        due("endPart of all", book.endPart(0, 1000, 0), 1405 - 1473);
        due("endPart: it still runs", book.count(3), 1);
        LeaseBook large = new LeaseBook();
        large.open(100000, 60, 0, 0);
        due("endPart of a large lease", large.endPart(0, 999, 0), 0);
        due("endPart: large asset", large.lease(0, 4), 6000);
        CHECK.throwing("endPart of no lease", () -> book.endPart(1, 1, 0), Check.INDEX);
        CHECK.throwing("endPart of 0", () -> book.endPart(0, 0, 0), Check.ARGUMENT);
        CHECK.throwing("endPart of 1001", () -> book.endPart(0, 1001, 0), Check.ARGUMENT);
        CHECK.throwing("endPart for -1", () -> book.endPart(0, 1, -1), Check.ARGUMENT);
        CHECK.throwing("endPart for 100001", () -> book.endPart(0, 1, 100001), Check.ARGUMENT);
        LeaseBook let = Books.letOn();
        CHECK.throwing("endPart while sublet", () -> let.endPart(0, 1, 0), Check.STATE);
        let.term(0, 7, 0);
        let.pass(6);
        due("endPart behind the subleases", let.endPart(0, 500, 100000), 500 - 232 - 100000);
        let.pass(1);
        CHECK.throwing("endPart of an ended lease", () -> let.endPart(0, 1, 0), Check.STATE);
    }

    private static void impair() {
        LeaseBook book = Books.three();
        due("impair", book.impair(0, 207), 2000);
        due("impair: movement 10", book.movement(0, 10), 207);
        due("impair: liability", book.lease(0, 3), 2107);
        book.pass(1);
        due("an impairment is spread over what is left", book.lease(0, 4), 2000 - 666);
        due("impair all", book.impair(0, 1334), 0);
        CHECK.throwing("impair more than there is", () -> book.impair(0, 1), Check.STATE);
        CHECK.throwing("impair no lease", () -> book.impair(1, 1), Check.INDEX);
        CHECK.throwing("impair by 0", () -> book.impair(0, 0), Check.ARGUMENT);
        CHECK.throwing("impair by 1000001", () -> book.impair(0, 1000001), Check.ARGUMENT);
        LeaseBook large = new LeaseBook();
        large.open(100000, 60, 0, 0);
        due("impair by 1000000", large.impair(0, 1000000), 5000000);
    }

    private static void sublet() {
        LeaseBook book = new LeaseBook();
        book.open(1000, 3, 2000, 100);
        due("sublet", book.sublet(0, 333, 400, 2), 0);
        due("sublet: asset", book.lease(0, 4), 2207 - 734);
        due("sublet: receivable", book.sublease(0, 5), 611);
        movements("sublet", book, 0, 2107, 0, 0, 0, 0, 2207, 0, 0, 0, 734, 0, 611, 0, 0, 0, 100, 0);
        due("sublet: profit", book.profit(0, 0), 611 - 734);
        due("sublet: a second one", book.sublet(0, 667, 0, 3), 1);
        due("sublet: asset of the rest", book.lease(0, 4), 1473 - 982);
        due("sublet: saved states", book.count(10), 3);
        CHECK.throwing("sublet of no lease", () -> book.sublet(1, 1, 1, 1), Check.INDEX);
        int[][] wrong = {{0, 1, 1}, {1001, 1, 1}, {1, -1, 1}, {1, 100001, 1}, {1, 1, 0}, {1, 1, 61}};
        for (int[] a : wrong) {
            CHECK.throwing("sublet with a wrong number", () -> book.sublet(0, a[0], a[1], a[2]), Check.ARGUMENT);
        }
        CHECK.throwing("sublet more than 1000 thousandths", () -> book.sublet(0, 1, 1, 1), Check.STATE);
    }

    private static void subletTakesNoMore() {
        LeaseBook book = Books.letOn();
        CHECK.throwing("sublet for longer than the lease", () -> book.sublet(0, 1, 1, 7), Check.STATE);
        CHECK.throwing("sublet 251 beside 750", () -> book.sublet(0, 251, 1, 1), Check.STATE);
        book.pass(3);
        due("an ended sublease takes nothing", book.sublet(0, 750, 1, 3), 2);
        book.open(1, 60, 0, 0);
        for (int number = 3; number < 12; number++) {
            due("sublet another", book.sublet(1, 1, 1, 1), number);
        }
        CHECK.throwing("sublet a thirteenth", () -> book.sublet(1, 1, 1, 1), Check.STATE);
        due("sublet: there are 12", book.count(1), 12);
        LeaseBook ended = Books.three();
        ended.pass(3);
        CHECK.throwing("sublet an ended lease", () -> ended.sublet(0, 1, 1, 1), Check.STATE);
    }

    private static void pass() {
        LeaseBook book = Books.three();
        due("pass", book.pass(1), 1);
        due("pass: liability", book.lease(0, 3), 1528);
        due("pass: asset", book.lease(0, 4), 2207 - 735);
        due("pass: interest", book.movement(0, 1), 421);
        due("pass on", book.pass(1), 2);
        due("pass: interest of both", book.movement(0, 1), 421 + 305);
        due("pass: asset behind both", book.lease(0, 4), 1472 - 736);
        due("pass beyond its end", book.pass(60), 62);
        movements("pass", book, 0, 2107, 893, 3000, 0, 0, 2207, 2207);
        due("pass: no asset is left", book.lease(0, 4), 0);
        due("pass: no periods are left", book.lease(0, 1), 0);
        due("pass is undone as one", book.undo(), 3);
        due("pass: the number of the period again", book.count(2), 2);
        LeaseBook uneven = new LeaseBook();
        uneven.open(0, 4, 0, 10);
        uneven.pass(1);
        due("written off: 10 by 4", uneven.lease(0, 4), 8);
        uneven.pass(1);
        due("written off: 8 by 3", uneven.lease(0, 4), 6);
        uneven.pass(1);
        due("written off: 6 by 2", uneven.lease(0, 4), 3);
        LeaseBook let = Books.three();
        let.sublet(0, 1, 1000, 2);
        let.pass(1);
        due("receipts: receivable", let.sublease(0, 5), 833);
        due("receipts: interest", let.movement(0, 12), 833 - 1528 + 1000);
        due("receipts: had", let.movement(0, 13), 1000);
        let.pass(2);
        due("receipts: had behind the end", let.movement(0, 13), 2000);
        due("receipts: interest behind the end", let.movement(0, 12), 472);
        due("receipts: periods", let.sublease(0, 3), 0);
        CHECK.throwing("pass 0", () -> book.pass(0), Check.ARGUMENT);
        CHECK.throwing("pass 61", () -> book.pass(61), Check.ARGUMENT);
    }

    private static void passEndsAt2000() {
        LeaseBook book = new LeaseBook();
        for (int i = 0; i < 33; i++) {
            book.pass(60);
        }
        CHECK.throwing("pass to 2001", () -> book.pass(21), Check.STATE);
        due("pass to 2000", book.pass(20), 2000);
        CHECK.throwing("pass behind 2000", () -> book.pass(1), Check.STATE);
        CHECK.throwing("pass 61 behind 2000", () -> book.pass(61), Check.ARGUMENT);
        book.open(7, 9, 0, 0);
        due("plan behind 2000", book.plan(0, 4, 0), 35);
    }

    private static void append() {
        LeaseBook book = new LeaseBook();
        CHECK.throwing("append 32", () -> book.append(32), Check.ARGUMENT);
        CHECK.throwing("append 127", () -> book.append(127), Check.ARGUMENT);
        due("append 33", book.append(33), 1);
        due("append 126", book.append(126), 2);
        due("append saves nothing", book.count(10), 0);
        for (int i = 3; i <= 60; i++) {
            due("append", book.append('1'), i);
        }
        CHECK.throwing("append a 61st", () -> book.append('1'), Check.STATE);
        CHECK.throwing("append a wrong 61st", () -> book.append(0), Check.ARGUMENT);
    }

    private static void clearBuffer() {
        LeaseBook book = Books.three();
        Books.write(book, "12*");
        due("clearBuffer", book.clearBuffer(), 3);
        due("clearBuffer again", book.clearBuffer(), 0);
        due("clearBuffer saves nothing", book.count(10), 1);
        due("append behind clearBuffer", book.append('7'), 1);
        due("firstError behind clearBuffer", book.firstError(), 1);
    }

    private static void error(String text, int want) {
        LeaseBook book = new LeaseBook();
        Books.write(book, text);
        due("firstError of " + text, book.firstError(), want);
    }

    private static void firstError() {
        error("", 0);
        error("100000*60@2000+100000;0*1@0+0", 29);
        error("100001", 5);
        error("1000000", 6);
        error("99999", 5);
        error("999990", 5);
        error("00", 1);
        error("01", 1);
        error("*", 0);
        error(";", 0);
        error("1;", 1);
        error("1@", 1);
        error("1+", 1);
        error("1**", 2);
        error("1*0", 2);
        error("1*6", 3);
        error("1*61", 3);
        error("1*60", 4);
        error("1*7@", 4);
        error("1*70", 3);
        error("1*1*", 3);
        error("1*1+", 3);
        error("1*1;", 3);
        error("1*1@2000", 8);
        error("1*1@2001", 7);
        error("1*1@20000", 8);
        error("1*1@00", 5);
        error("1*1@@", 4);
        error("1*1@1@", 5);
        error("1*1@1*", 5);
        error("1*1@+", 4);
        error("1*1@;", 4);
        error("1*1@1+;", 6);
        error("1*1@1+100001", 11);
        error("1*1@1+01", 7);
        error("1*1@1+1+", 7);
        error("1*1@1;;", 6);
        error("1*1@1;01", 7);
        error("1*1@1;5*2@", 10);
        error("1*1@1+2;5*2@9+9;", 16);
        error("0*1@0;0*1@0;0*1@0;0*1@0;0*1@0;0*1@0;0*1@0;0*1@0;0*1@0;0*1@0;", 60);
        error("a1", 0);
        error("1*1@1 ".trim() + "~", 5);
        error("1*2@3+4/", 7);
        error("1:", 1);
    }

    private static void openAll() {
        LeaseBook book = new LeaseBook();
        Books.write(book, "1000*3@2000+100;7*2@0");
        due("openAll", book.openAll(), 2);
        due("openAll clears the buffer", book.clearBuffer(), 0);
        due("openAll: first payment", book.lease(0, 0), 1000);
        due("openAll: first periods", book.lease(0, 1), 3);
        due("openAll: first rate", book.lease(0, 2), 2000);
        due("openAll: first asset", book.lease(0, 4), 2207);
        due("openAll: a cost left out is 0", book.movement(1, 15), 0);
        due("openAll: second asset", book.lease(1, 4), 14);
        due("openAll saves once", book.count(10), 1);
        Books.write(book, "0*1@0");
        due("openAll once more", book.openAll(), 3);
        Books.write(book, "55");
        due("openAll is undone as one", book.undo(), 1);
        due("openAll is undone wholly", book.undo(), 0);
        due("openAll: no leases again", book.count(0), 0);
        due("undo leaves the buffer", book.clearBuffer(), 2);
        Books.write(book, "0*1@0;0*1@0;0*1@0;0*1@0;0*1@0;0*1@0;0*1@0;0*1@0");
        due("openAll of 8", book.openAll(), 8);
    }

    private static void openAllRefuses() {
        String[] wrong = {"", "1", "1*", "1*1", "1*1@", "1*1@1+", "1*1@1;", "1*1@1+1;", "1*1@1;2*1", "1*0@1", "01*1@1",
            "1*1@1x", "1*1@1;;1*1@1"};
        for (String text : wrong) {
            LeaseBook book = new LeaseBook();
            Books.write(book, text);
            CHECK.throwing("openAll of " + text, () -> book.openAll(), Check.ARGUMENT);
            due("openAll leaves the buffer", book.clearBuffer(), text.length());
            due("openAll opens none", book.count(0), 0);
            due("openAll saves nothing", book.count(10), 0);
        }
        LeaseBook book = Books.three();
        Books.write(book, "0*1@0;0*1@0;0*1@0;0*1@0;0*1@0;0*1@0;0*1@0;0*1@0");
        CHECK.throwing("openAll to 9", () -> book.openAll(), Check.STATE);
        due("openAll to 9 leaves the buffer", book.clearBuffer(), 47);
        due("openAll to 9 opens none", book.count(0), 1);
        due("openAll to 9 saves nothing", book.count(10), 1);
        LeaseBook filled = Books.full();
        CHECK.throwing("openAll of nothing with 8 leases", () -> filled.openAll(), Check.ARGUMENT);
        Books.write(filled, "0*1@0");
        CHECK.throwing("openAll with 8 leases", () -> filled.openAll(), Check.STATE);
    }

    private static void undo() {
        LeaseBook book = Books.three();
        for (int i = 1; i <= 7; i++) {
            book.impair(0, i);
        }
        due("saved states are at most 6", book.count(10), 6);
        for (int left = 5; left >= 0; left--) {
            due("undo", book.undo(), left);
        }
        due("the oldest ones are dropped", book.movement(0, 10), 1);
        CHECK.throwing("undo of nothing", () -> book.undo(), Check.STATE);
        due("undo: behind it one can go on", book.impair(0, 5), 2201);
        due("undo again", book.undo(), 0);
        due("undo: the asset again", book.lease(0, 4), 2206);
    }

    private static void undone(String call, LeaseBook book, Runnable change) {
        int saved = book.count(10);
        long ahead = book.digest();
        change.run();
        due(call + " saves one state", book.count(10), saved + 1);
        CHECK.holds(call + " changes something", book.digest() != ahead);
        due("undo of " + call, book.undo(), saved);
        due("digest behind undo of " + call, book.digest(), ahead);
    }

    private static void undoOfEachCall() {
        LeaseBook book = Books.letOn();
        book.open(1000, 5, 500, 10);
        book.clearBuffer();
        undone("open", book, () -> book.open(5, 6, 7, 8));
        undone("term", book, () -> book.term(0, 2, 50));
        undone("rent", book, () -> book.rent(0, 2));
        undone("endPart", book, () -> book.endPart(1, 100, 3));
        undone("impair", book, () -> book.impair(0, 100));
        undone("sublet", book, () -> book.sublet(1, 100, 50, 5));
        undone("pass", book, () -> book.pass(4));
        undone("openAll", book, () -> {
            Books.write(book, "1*2@3;4*5@6");
            book.openAll();
        });
    }

    private static void properties(String name, LeaseBook book, int lease, int... want) {
        for (int what = 0; what < want.length; what++) {
            due(name + " " + what, book.lease(lease, what), want[what]);
        }
    }

    private static void lease() {
        LeaseBook book = Books.letOn();
        properties("lease", book, 0, 1000, 6, 0, 6000, 2250, 5100, 900, 750, 2);
        book.open(1, 2, 3, 4);
        properties("lease beside it", book, 1, 1, 2, 3, 2, 6, 0, 2, 0, 0);
        book.pass(3);
        properties("lease behind 3", book, 0, 1000, 3, 0, 3000, 1125, 1200, 1800, 250, 1);
        properties("ended lease", book, 1, 1, 0, 3, 0, 0, 0, 0, 0, 0);
        CHECK.throwing("lease -1", () -> book.lease(-1, 0), Check.INDEX);
        CHECK.throwing("lease 2 of 2", () -> book.lease(2, 9), Check.INDEX);
        CHECK.throwing("lease, what -1", () -> book.lease(0, -1), Check.ARGUMENT);
        CHECK.throwing("lease, what 9", () -> book.lease(0, 9), Check.ARGUMENT);
    }

    private static void sublease() {
        LeaseBook book = Books.letOn();
        book.open(1000, 3, 2000, 0);
        book.sublet(1, 7, 1000, 2);
        int[] want = {1, 7, 1000, 2, 2000, 1528};
        for (int what = 0; what < want.length; what++) {
            due("sublease " + what, book.sublease(2, what), want[what]);
        }
        book.pass(3);
        int[] ended = {1, 7, 1000, 0, 2000, 0};
        for (int what = 0; what < ended.length; what++) {
            due("ended sublease " + what, book.sublease(2, what), ended[what]);
        }
        CHECK.throwing("sublease -1", () -> book.sublease(-1, 0), Check.INDEX);
        CHECK.throwing("sublease 3 of 3", () -> book.sublease(3, 0), Check.INDEX);
        CHECK.throwing("sublease, what -1", () -> book.sublease(0, -1), Check.ARGUMENT);
        CHECK.throwing("sublease, what 6", () -> book.sublease(0, 6), Check.ARGUMENT);
    }

    private static void movement() {
        LeaseBook book = new LeaseBook();
        book.open(1000, 6, 0, 60);
        book.sublet(0, 500, 900, 6);
        book.impair(0, 30);
        book.pass(2);
        book.term(0, 2, 0);
        book.pass(2);
        movements("movement", book, 0, 6000, 0, 4000, -2000, 0, 6060, 1000, -2000, 0, 3030, 30, 5400, 0,
                3600, 1800, 60, 0);
        CHECK.throwing("movement of no lease", () -> book.movement(1, 0), Check.INDEX);
        CHECK.throwing("movement -1", () -> book.movement(0, -1), Check.ARGUMENT);
        CHECK.throwing("movement 17", () -> book.movement(0, 17), Check.ARGUMENT);
    }

    private static void profit() {
        LeaseBook book = new LeaseBook();
        book.open(1000, 6, 2000, 60);
        book.endPart(0, 100, 5);
        book.sublet(0, 500, 1200, 6);
        book.impair(0, 30);
        book.pass(2);
        book.term(0, 2, 100);
        book.rent(0, 10);
        for (int passed = 0; passed < 2; passed++) {
            due("both profits are the same", book.profit(0, 0), book.profit(0, 1));
            book.pass(1);
        }
        // What is paid and had is all that there is when nothing is left: 2 * 900 and 2 * 10 paid.
        due("profit by movements", book.profit(0, 0), 4 * 1200 - 2 * 900 - 2 * 10 - 60 - 5);
        due("profit by what there is", book.profit(0, 1), 4 * 1200 - 2 * 900 - 2 * 10 - 60 - 5);
        CHECK.throwing("profit of no lease", () -> book.profit(1, 0), Check.INDEX);
        CHECK.throwing("profit, way -1", () -> book.profit(0, -1), Check.ARGUMENT);
        CHECK.throwing("profit, way 2", () -> book.profit(0, 2), Check.ARGUMENT);
    }

    private static void count() {
        LeaseBook book = Books.letOn();
        book.open(10, 2, 0, 5);
        book.open(10, 2, 0, 0);
        int[] want = {3, 2, 0, 3, 2, 6040, 2250 + 45, 5100, 5100 - 3750, 1, 5};
        for (int what = 0; what < want.length; what++) {
            due("count " + what, book.count(what), want[what]);
        }
        book.pass(2);
        due("count of running leases", book.count(3), 1);
        due("count of those ending first", book.count(9), 0);
        book.pass(1);
        due("count of running subleases", book.count(4), 1);
        due("count of subleases", book.count(1), 2);
        due("count of periods", book.count(2), 3);
        book.pass(3);
        due("count when none runs", book.count(9), -1);
        book.open(0, 60, 0, 0);
        due("count of one with 60 periods", book.count(9), 3);
        CHECK.throwing("count -1", () -> book.count(-1), Check.ARGUMENT);
        CHECK.throwing("count 11", () -> book.count(11), Check.ARGUMENT);
    }

    private static void worth() {
        LeaseBook book = new LeaseBook();
        due("worth of nothing", book.worth(1000, 0, 2000), 0);
        due("worth of 1", book.worth(1000, 1, 2000), 833);
        due("worth of 2, half rounded up", book.worth(1000, 2, 2000), 1528);
        due("worth of 3", book.worth(1000, 3, 2000), 2107);
        due("worth of no payments", book.worth(0, 60, 2000), 0);
        due("worth by no rate", book.worth(100000, 60, 0), 6000000);
        due("worth by the highest rate", book.worth(1, 60, 2000), 3);
        due("worth by the least rate", book.worth(5000, 1, 1), 5000);
        due("worth by the least rate, rounded down", book.worth(5001, 1, 1), 5000);
        due("worth of 12 by 1 percent", book.worth(1000, 12, 100), 11253);
        int[][] wrong = {{-1, 1, 1}, {100001, 1, 1}, {1, -1, 1}, {1, 61, 1}, {1, 1, -1}, {1, 1, 2001}};
        for (int[] a : wrong) {
            CHECK.throwing("worth of a wrong number", () -> book.worth(a[0], a[1], a[2]), Check.ARGUMENT);
        }
    }

    private static void plan() {
        LeaseBook book = Books.three();
        book.sublet(0, 1, 1000, 2);
        int[][] want = {{2107, 2205, 1528, 0}, {1528, 1470, 833, 421}, {833, 735, 0, 305}, {0, 0, 0, 167},
            {0, 0, 0, 0}};
        long ahead = book.digest();
        for (int periods = 0; periods < want.length; periods++) {
            for (int what = 0; what < 4; what++) {
                due("plan " + periods + ", " + what, book.plan(0, periods, what), want[periods][what]);
            }
        }
        due("plan behind 60", book.plan(0, 60, 0), 0);
        due("plan changes nothing", book.digest(), ahead);
        CHECK.throwing("plan of no lease", () -> book.plan(1, 0, 0), Check.INDEX);
        CHECK.throwing("plan behind -1", () -> book.plan(0, -1, 0), Check.ARGUMENT);
        CHECK.throwing("plan behind 61", () -> book.plan(0, 61, 0), Check.ARGUMENT);
        CHECK.throwing("plan, what -1", () -> book.plan(0, 0, -1), Check.ARGUMENT);
        CHECK.throwing("plan, what 4", () -> book.plan(0, 0, 4), Check.ARGUMENT);
    }

    private static void ifMeasured() {
        LeaseBook book = Books.letOn();
        long ahead = book.digest();
        due("ifMeasured: liability", book.ifMeasured(0, 500, 4, 0, 0), 2000);
        due("ifMeasured: asset, at least 0", book.ifMeasured(0, 500, 4, 0, 1), 0);
        due("ifMeasured: profit", book.ifMeasured(0, 500, 4, 0, 2), 4000 - 2250 - 800);
        due("ifMeasured: asset", book.ifMeasured(0, 1000, 7, 0, 1), 3250);
        due("ifMeasured: no profit", book.ifMeasured(0, 1000, 7, 0, 2), 0);
        due("ifMeasured changes nothing", book.digest(), ahead);
        int[][] wrong = {{-1, 1, 1, 0}, {100001, 1, 1, 0}, {1, 0, 1, 0}, {1, 61, 1, 0}, {1, 1, -1, 0}, {1, 1, 2001, 0},
            {1, 1, 1, -1}, {1, 1, 1, 3}};
        CHECK.throwing("ifMeasured of no lease", () -> book.ifMeasured(1, 1, 1, 1, 0), Check.INDEX);
        for (int passed = 0; passed < 2; passed++) {
            for (int[] a : wrong) {
                CHECK.throwing("ifMeasured of a wrong number", () -> book.ifMeasured(0, a[0], a[1], a[2], a[3]),
                        Check.ARGUMENT);
            }
            book.pass(6);
        }
        for (int what = 0; what < 3; what++) {
            due("ifMeasured of an ended lease", book.ifMeasured(0, 1, 1, 1, what), -1);
        }
    }

    private static void paymentFor() {
        LeaseBook book = Books.three();
        due("paymentFor", book.paymentFor(0, 2107), 1000);
        due("paymentFor one more", book.paymentFor(0, 2108), 1001);
        due("paymentFor one less", book.paymentFor(0, 2106), 999);
        due("paymentFor nothing", book.paymentFor(0, 0), 0);
        due("paymentFor all", book.paymentFor(0, 210648), 100000);
        due("paymentFor less than all", book.paymentFor(0, 210647), 99999);
        due("paymentFor the highest", book.paymentFor(0, 10000000), 100000);
        CHECK.throwing("paymentFor no lease", () -> book.paymentFor(1, 0), Check.INDEX);
        CHECK.throwing("paymentFor -1", () -> book.paymentFor(0, -1), Check.ARGUMENT);
        CHECK.throwing("paymentFor 10000001", () -> book.paymentFor(0, 10000001), Check.ARGUMENT);
        book.pass(3);
        due("paymentFor an ended lease", book.paymentFor(0, 5), -1);
        CHECK.throwing("paymentFor -1, ended", () -> book.paymentFor(0, -1), Check.ARGUMENT);
    }

    private static void rateWithin() {
        LeaseBook book = new LeaseBook();
        book.open(1000, 1, 2000, 0);
        // 1000 is worth 833 by at most 2011, and there is no rate above 2000.
        due("rateWithin the highest", book.rateWithin(0), 2000);
        book.open(1000, 1, 500, 0);
        // 952 is what 1000 is worth by a rate up to 509: 1000 / 1.0509 = 951.565.
        due("rateWithin", book.rateWithin(1), 509);
        book.open(1000, 1, 0, 0);
        due("rateWithin of no interest", book.rateWithin(2), 5);
        book.open(1000, 1, 0, 1);
        due("rateWithin of none", book.rateWithin(3), -1);
        book.impair(1, 952);
        book.open(100000, 1, 0, 0);
        due("rateWithin of rate 0 alone", book.rateWithin(4), 0);
        due("rateWithin without an asset", book.rateWithin(1), 2000);
        CHECK.throwing("rateWithin no lease", () -> book.rateWithin(5), Check.INDEX);
        CHECK.throwing("rateWithin -1", () -> book.rateWithin(-1), Check.INDEX);
        book.pass(1);
        due("rateWithin an ended lease", book.rateWithin(0), -1);
    }

    private static void fairReceipt() {
        LeaseBook book = Books.three();
        // 734 of the asset: 881 is worth 734 (734.17), 880 is worth 733 (733.33).
        due("fairReceipt of 1", book.fairReceipt(0, 333, 1), 881);
        book.sublet(0, 333, 881, 1);
        due("fairReceipt brings no loss", book.profit(0, 0), 0);
        book.undo();
        book.sublet(0, 333, 880, 1);
        due("one less brings a loss", book.profit(0, 0), -1);
        due("fairReceipt beside another", book.fairReceipt(0, 667, 1) >= 0 ? 1 : 0, 1);
        due("fairReceipt beyond 1000 thousandths", book.fairReceipt(0, 668, 1), -1);
        due("fairReceipt beyond the lease", book.fairReceipt(0, 1, 4), -1);
        book.impair(0, 1473);
        due("fairReceipt of no asset", book.fairReceipt(0, 1, 1), 0);
        CHECK.throwing("fairReceipt of no lease", () -> book.fairReceipt(1, 1, 1), Check.INDEX);
        int[][] wrong = {{0, 1}, {1001, 1}, {1, 0}, {1, 61}};
        for (int[] a : wrong) {
            CHECK.throwing("fairReceipt of a wrong number", () -> book.fairReceipt(0, a[0], a[1]), Check.ARGUMENT);
        }
        book.pass(3);
        due("fairReceipt of an ended lease", book.fairReceipt(0, 1, 1), -1);
        LeaseBook large = new LeaseBook();
        large.open(100000, 2, 0, 0);
        due("fairReceipt of 100000", large.fairReceipt(0, 500, 1), 100000);
        due("fairReceipt that is none", large.fairReceipt(0, 501, 1), -1);
        LeaseBook small = new LeaseBook();
        small.open(1, 1, 0, 0);
        due("fairReceipt of the least part", small.fairReceipt(0, 1000, 1), 1);
        for (int i = 0; i < 12; i++) {
            large.sublet(0, 1, 1, 1);
        }
        due("fairReceipt with 12 subleases", large.fairReceipt(0, 1, 1), -1);
    }

    private static void share(LeaseBook book, double want) {
        due("offShare", Double.doubleToRawLongBits(book.offShare()), Double.doubleToRawLongBits(want));
    }

    private static void offShare() {
        LeaseBook book = new LeaseBook();
        share(book, 0.0);
        book.open(0, 5, 0, 9);
        book.sublet(0, 1, 7, 1);
        share(book, 0.0);
        book.open(1, 1, 0, 0);
        share(book, 7.0);
        book.rent(1, 3);
        share(book, 7.0 / 3.0);
        book.open(100, 7, 0, 0);
        share(book, 7.0 / 703.0);
        book.pass(1);
        share(book, 0.0);
    }

    private static void digest() {
        LeaseBook book = new LeaseBook();
        due("digest of a new object", book.digest(), Told.hash(0, 0, 0, 0, 0, 0, 0, 0, 0, -1, 0, 0, 0));
        book.open(1000, 4, 0, 0);
        book.sublet(0, 100, 300, 4);
        book.append('~');
        due("digest", book.digest(), Told.hash(1, 1, 0, 1, 1, 4000, 3600, 1200, 800, 0, 2,
                1000, 4, 0, 4000, 3600, 1200, 2800, 100, 1,
                4000, 0, 0, 0, 0, 4000, 0, 0, 0, 400, 0, 1200, 0, 0, 0, 0, 0,
                800, 800, 1000, 900, 300, 0, 12000, 11600, 0, 12500, 434, 360,
                0, 100, 300, 4, 0, 1200, Double.doubleToLongBits(0.3), 1, '~'));
    }

    private static void digestOfShares() {
        int[][] shares = {{1, 1}, {2, 1}, {4, 1}, {100000, 1}, {99999, 1}, {1, 2}, {1, 3}, {1, 10}, {1, 11}, {1, 50000},
            {1, 65536}, {7, 3}, {3, 7}, {11, 10}, {19, 10}, {21, 10}, {0, 5}, {5, 0}, {99991, 99989}};
        for (int[] share : shares) {
            LeaseBook book = new LeaseBook();
            book.open(share[1], 1, 0, 0);
            book.sublet(0, 1, share[0], 1);
            Books.write(book, "!~");
            due("digest with the share " + share[0] + " / " + share[1], book.digest(), Told.digest(book, "!~"));
        }
        for (int steps = 0; steps <= 3; steps++) {
            LeaseBook large = new LeaseBook();
            large.open(1, 60, 2000, 0);
            large.open(100000, 60, 0, 0);
            for (int i = 0; i < 11; i++) {
                large.sublet(1, 1, 100000, 60);
            }
            if (steps > 0) {
                large.rent(1, 0);
            }
            if (steps > 1) {
                large.pass(59);
            }
            if (steps > 2) {
                large.pass(1);
            }
            due("digest of a large share behind " + steps + " steps", large.digest(), Told.digest(large, ""));
        }
    }

    /** If several exceptions apply, the one that is named first is thrown. */
    private static void orderOfExceptions() {
        LeaseBook book = Books.full();
        CHECK.throwing("open wrong, full", () -> book.open(-1, 1, 0, 0), Check.ARGUMENT);
        CHECK.throwing("term wrong, nowhere", () -> book.term(8, 0, 0), Check.INDEX);
        CHECK.throwing("rent wrong, nowhere", () -> book.rent(8, -1), Check.INDEX);
        CHECK.throwing("endPart wrong, nowhere", () -> book.endPart(8, 0, 0), Check.INDEX);
        CHECK.throwing("impair wrong, nowhere", () -> book.impair(8, 0), Check.INDEX);
        CHECK.throwing("sublet wrong, nowhere", () -> book.sublet(8, 0, 0, 0), Check.INDEX);
        CHECK.throwing("sublease wrong, nowhere", () -> book.sublease(0, 9), Check.INDEX);
        CHECK.throwing("movement wrong, nowhere", () -> book.movement(8, 99), Check.INDEX);
        CHECK.throwing("profit wrong, nowhere", () -> book.profit(8, 99), Check.INDEX);
        CHECK.throwing("plan wrong, nowhere", () -> book.plan(8, 99, 0), Check.INDEX);
        CHECK.throwing("ifMeasured wrong, nowhere", () -> book.ifMeasured(8, -1, 1, 1, 0), Check.INDEX);
        CHECK.throwing("paymentFor wrong, nowhere", () -> book.paymentFor(8, -1), Check.INDEX);
        CHECK.throwing("fairReceipt wrong, nowhere", () -> book.fairReceipt(8, 0, 1), Check.INDEX);
        book.pass(8);
        CHECK.throwing("term wrong, ended", () -> book.term(0, 0, 0), Check.ARGUMENT);
        CHECK.throwing("rent wrong, ended", () -> book.rent(0, -1), Check.ARGUMENT);
        CHECK.throwing("endPart wrong, ended", () -> book.endPart(0, 0, 0), Check.ARGUMENT);
        CHECK.throwing("impair wrong, ended", () -> book.impair(0, 0), Check.ARGUMENT);
        CHECK.throwing("sublet wrong, ended", () -> book.sublet(0, 0, 0, 0), Check.ARGUMENT);
    }
}
