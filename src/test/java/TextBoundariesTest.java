import java.util.ArrayList;
import java.util.List;

/** The boundaries of promises 9 to 13: the buffer, leases as a text, and undo. */
final class TextBoundariesTest extends Boundary {
    /** Five leases in 60 characters. */
    private static final String SIXTY = "100000*60@2000+100000;100000*60@2000;1*1@1+1;22*2@2+2;3*3@33";
    private static final String EIGHT = "0*1@0;0*1@0;0*1@0;0*1@0;0*1@0;0*1@0;0*1@0;0*1@0";
    private static final String SEVEN = EIGHT.substring(6);

    public static void main(String[] args) {
        new TextBoundariesTest().runAll(9, 13);
    }

    private static LeaseBook withFullBuffer() {
        return Books.written("x".repeat(60));
    }

    private void errorAt(int want, String text) {
        looks("firstError of '" + text + "'", Books.written(text), b -> b.firstError(), want);
    }

    private void noError(String text) {
        errorAt(text.length(), text);
    }

    /** Behind the text come these characters, and every other one is an error. */
    private void follows(String text, String allowed) {
        for (int code = 33; code <= 126; code++) {
            LeaseBook book = Books.written(text);
            book.append(code);
            int want = text.length() + (allowed.indexOf(code) >= 0 ? 1 : 0);
            due("firstError of '" + text + (char) code + "'", book.firstError(), want);
        }
    }

    private void notComplete(String text) {
        refused("openAll of '" + text + "'", Books.written(text), b -> b.openAll(), Check.ARGUMENT);
    }

    // ---- promise 9: append

    void promise09CodeIs33To126() {
        takes(33, 126, LeaseBook::new, (b, n) -> b.append(n));
        for (int code : new int[] {0, 10, 13, 31, 128, 255, 256, 65536 + 48, 48 - 65536, 256 + 48}) {
            refused("" + code, new LeaseBook(), b -> b.append(code), Check.ARGUMENT);
        }
    }

    void promise09EachOfTheCodesIsKept() {
        for (int code = 33; code <= 126; code++) {
            LeaseBook book = new LeaseBook();
            book.append(code);
            due("the digest with " + code, book.digest(), Told.hash(0, 0, 0, 0, 0, 0, 0, 0, 0, -1, 0, 0, 1, code));
        }
    }

    void promise09TheNewLengthIs1To60() {
        LeaseBook book = new LeaseBook();
        for (int length = 1; length <= 60; length++) {
            due("append", book, b -> b.append(126), length);
        }
    }

    void promise09TheBufferHas60Characters() {
        LeaseBook book = withFullBuffer();
        refused("a 61st", book, b -> b.append('1'), Check.STATE);
        refused("the least code", book, b -> b.append(33), Check.STATE);
        refused("the highest code", book, b -> b.append(126), Check.STATE);
        due("the length", book.clearBuffer(), 60);
    }

    void promise09AWrongCodeComesAheadOfAFullBuffer() {
        for (int code : outside(33, 126)) {
            refused("" + code, withFullBuffer(), b -> b.append(code), Check.ARGUMENT);
        }
    }

    void promise09ItSavesNothing() {
        LeaseBook book = Books.written("1");
        due("saved states", book.count(10), 0);
        refused("undo", book, b -> b.undo(), Check.STATE);
    }

    // ---- promise 10: clearBuffer

    void promise10AnEmptyBufferHadTheLength0() {
        looks("clearBuffer", new LeaseBook(), b -> b.clearBuffer(), 0);
    }

    void promise10AFullBufferHadTheLength60() {
        LeaseBook book = withFullBuffer();
        due("clearBuffer", book, b -> b.clearBuffer(), 60);
        due("clearBuffer again", book, b -> b.clearBuffer(), 0);
        due("firstError", book.firstError(), 0);
    }

    void promise10BehindItThereIsRoomFor60Again() {
        LeaseBook book = withFullBuffer();
        book.clearBuffer();
        Books.write(book, SIXTY);
        refused("a 61st", book, b -> b.append('1'), Check.STATE);
        due("openAll", book, b -> b.openAll(), 5);
    }

    void promise10ItSavesNothing() {
        LeaseBook book = Books.written("1");
        book.clearBuffer();
        due("saved states", book.count(10), 0);
        refused("undo", book, b -> b.undo(), Check.STATE);
        due("the length", book.clearBuffer(), 0);
    }

    // ---- promise 11: firstError

    void promise11AnEmptyBufferHasNoError() {
        errorAt(0, "");
    }

    void promise11WithoutAnErrorTheLength() {
        errorAt(1, "1");
        errorAt(5, "0*1@0");
    }

    void promise11AFullBufferWithoutAnError() {
        errorAt(60, SIXTY);
    }

    void promise11AnErrorAtTheFirstCharacter() {
        errorAt(0, "x");
        errorAt(0, "*1@1");
        errorAt(0, "x".repeat(60));
    }

    void promise11AnErrorAtTheLastCharacter() {
        errorAt(59, SIXTY.substring(0, 59) + "x");
        errorAt(5, "1*1@1x");
    }

    void promise11TheFirstOfSeveralErrors() {
        errorAt(1, "1x*1x");
        errorAt(6, "1*1@1;;;x");
    }

    void promise11TextsOfAnyLengthBeginWithAFullBuffer() {
        String nine = "0*1@0;".repeat(9);
        errorAt(60, nine + "0*1@0;");
        errorAt(60, nine + "100000");
        errorAt(60, nine + "1000*6");
        errorAt(60, nine + "1*60@2");
        errorAt(60, nine + "0*1@0+");
    }

    void promise11TextsOfMoreThan8LeasesAreTexts() {
        noError(EIGHT + ";0*1@0");
    }

    void promise11PaymentIs0To100000() {
        follows("", "0123456789");
        follows("0", "*");
        follows("1", "0123456789*");
        follows("9999", "0123456789*");
        follows("10000", "0*");
        follows("10001", "*");
        follows("99999", "*");
        follows("100000", "*");
    }

    void promise11PeriodsAre1To60() {
        follows("1*", "123456789");
        follows("1*1", "0123456789@");
        follows("1*5", "0123456789@");
        follows("1*6", "0@");
        follows("1*7", "@");
        follows("1*9", "@");
        follows("1*10", "@");
        follows("1*60", "@");
    }

    void promise11RateIs0To2000() {
        follows("1*1@", "0123456789");
        follows("1*1@0", "+;");
        follows("1*1@1", "0123456789+;");
        follows("1*1@199", "0123456789+;");
        follows("1*1@200", "0+;");
        follows("1*1@201", "+;");
        follows("1*1@999", "+;");
        follows("1*1@1999", "+;");
        follows("1*1@2000", "+;");
    }

    void promise11CostIs0To100000() {
        follows("1*1@1+", "0123456789");
        follows("1*1@1+0", ";");
        follows("1*1@1+1", "0123456789;");
        follows("1*1@1+9999", "0123456789;");
        follows("1*1@1+10000", "0;");
        follows("1*1@1+10001", ";");
        follows("1*1@1+99999", ";");
        follows("1*1@1+100000", ";");
    }

    void promise11BehindASemicolonALeaseBegins() {
        follows("1*1@1;", "0123456789");
        follows("1*1@1;0", "*");
        follows("1*1@1+1;10000", "0*");
        follows("1*1@1+1;1*6", "0@");
        follows("1*1@1+1;1*1@200", "0+;");
        follows("1*1@1+1;1*1@1", "0123456789+;");
    }

    void promise11NumbersHaveNoLeadingZeros() {
        errorAt(1, "00");
        errorAt(1, "01*1@1");
        errorAt(2, "1*01@1");
        errorAt(5, "1*1@00");
        errorAt(5, "1*1@01");
        errorAt(7, "1*1@1+00");
        errorAt(7, "1*1@1+01");
        errorAt(7, "1*1@1;01");
        noError("100*10@100+100");
    }

    void promise11NoNumberIsLeftOut() {
        errorAt(0, "*");
        errorAt(2, "1*@1");
        errorAt(4, "1*1@+1");
        errorAt(4, "1*1@;");
        errorAt(6, "1*1@1+;");
        errorAt(6, "1*1@1;;");
        errorAt(6, "1*1@1;*");
        errorAt(0, ";");
    }

    void promise11TheCostMayBeLeftOut() {
        noError("1*1@1");
        noError("1*1@1;1*1@1");
        noError("1*1@1;1*1@1+1;1*1@1");
    }

    void promise11ItChangesNothing() {
        LeaseBook book = Books.three();
        Books.write(book, "1x");
        looks("the first look", book, b -> b.firstError(), 1);
        looks("the second look", book, b -> b.firstError(), 1);
        due("the length", book.clearBuffer(), 2);
    }

    // ---- promise 12: openAll

    void promise12AnEmptyBufferIsNotComplete() {
        notComplete("");
    }

    void promise12ATextThatBreaksOffIsNotComplete() {
        String text = "12*3@45+6;";
        for (int length : new int[] {1, 2, 3, 4, 5, 8, 10}) {
            notComplete(text.substring(0, length));
        }
        notComplete("1*1@1;2");
        notComplete("1*1@1;2*1@");
        notComplete("1*1@1;2*1@3+");
    }

    void promise12ATextWithAnErrorIsNotComplete() {
        String[] texts = {"x", "1*0@1", "1*61@1", "100001*1@1", "1*1@2001", "1*1@1+100001", "01*1@1", "1*1@1x",
            "1*1@1;;1*1@1", ";1*1@1", "1*1@1+1+1", "1*1@1;1*1@x"};
        for (String text : texts) {
            notComplete(text);
        }
    }

    void promise12AFullBufferThatBreaksOffIsNotComplete() {
        String nine = "0*1@0;".repeat(9);
        notComplete(nine + "100000");
        notComplete(nine + "10*60@");
        notComplete(nine + "0*1@0+");
        notComplete(nine + "0*1@0;");
    }

    void promise12AFullBufferIsOpened() {
        LeaseBook book = Books.written(SIXTY);
        due("openAll", book, b -> b.openAll(), 5);
        due("the rate of the last one", book.lease(4, 2), 33);
    }

    void promise12TheLowestNumbers() {
        LeaseBook book = Books.written("0*1@0+0;0*1@0");
        due("openAll", book, b -> b.openAll(), 2);
        for (int lease = 0; lease < 2; lease++) {
            due("payment", book.lease(lease, 0), 0);
            due("periods", book.lease(lease, 1), 1);
            due("rate", book.lease(lease, 2), 0);
            due("asset", book.lease(lease, 4), 0);
        }
    }

    void promise12TheHighestNumbers() {
        LeaseBook book = Books.written("100000*60@2000+100000");
        due("openAll", book, b -> b.openAll(), 1);
        due("payment", book.lease(0, 0), 100000);
        due("periods", book.lease(0, 1), 60);
        due("rate", book.lease(0, 2), 2000);
        due("liability", book.lease(0, 3), 499992);
        due("asset", book.lease(0, 4), 599992);
        due("cost", book.movement(0, 15), 100000);
    }

    void promise12WithoutACostItIs0() {
        LeaseBook book = Books.written("1*1@1+7;1*1@1;1*1@1+8");
        book.openAll();
        due("the first cost", book.movement(0, 15), 7);
        due("the cost that is left out", book.movement(1, 15), 0);
        due("the third cost", book.movement(2, 15), 8);
    }

    void promise12ThereAreAtMost8Leases() {
        due("8 of 0", Books.written(EIGHT), b -> b.openAll(), 8);
        refused("9 of 0", Books.written(EIGHT + ";0*1@0"), b -> b.openAll(), Check.STATE);
        refused("10 of 0", Books.written(EIGHT + ";0*1@0;0*1@0"), b -> b.openAll(), Check.STATE);
        LeaseBook seven = Books.three();
        Books.write(seven, SEVEN);
        due("7 beside 1", seven, b -> b.openAll(), 8);
        LeaseBook eight = Books.three();
        Books.write(eight, EIGHT);
        refused("8 beside 1", eight, b -> b.openAll(), Check.STATE);
        LeaseBook full = Books.full();
        Books.write(full, "0*1@0");
        refused("1 beside 8", full, b -> b.openAll(), Check.STATE);
        full.undo();
        due("1 beside 7", full, b -> b.openAll(), 8);
    }

    void promise12EndedLeasesAreAmongThe8() {
        LeaseBook book = Books.full();
        book.pass(8);
        Books.write(book, "0*1@0");
        refused("1 beside 8", book, b -> b.openAll(), Check.STATE);
    }

    void promise12ATextThatIsNotCompleteComesAheadOf8Leases() {
        refused("nothing beside 8", Books.full(), b -> b.openAll(), Check.ARGUMENT);
        notComplete(EIGHT + ";0*1@0;");
        LeaseBook full = Books.full();
        Books.write(full, "0*1@");
        refused("what breaks off beside 8", full, b -> b.openAll(), Check.ARGUMENT);
    }

    void promise12AllOrNone() {
        LeaseBook book = Books.written("1*1@1;1*1@1;1*1@1x");
        refused("openAll", book, b -> b.openAll(), Check.ARGUMENT);
        due("leases", book.count(0), 0);
        due("the buffer stays", book.clearBuffer(), 18);
        LeaseBook tooMany = Books.three();
        Books.write(tooMany, EIGHT);
        refused("openAll of too many", tooMany, b -> b.openAll(), Check.STATE);
        due("leases", tooMany.count(0), 1);
        due("the buffer stays", tooMany.clearBuffer(), 47);
    }

    void promise12BehindItTheBufferIsEmpty() {
        LeaseBook book = Books.written("1*1@1");
        book.openAll();
        due("firstError", book.firstError(), 0);
        refused("openAll again", book, b -> b.openAll(), Check.ARGUMENT);
        due("append", book, b -> b.append('1'), 1);
    }

    void promise12UndoableAsOneCall() {
        LeaseBook book = Books.written(EIGHT);
        book.openAll();
        due("saved states", book.count(10), 1);
        due("undo", book, b -> b.undo(), 0);
        due("leases", book.count(0), 0);
        due("the buffer is not saved", book.clearBuffer(), 0);
    }

    // ---- promise 13: undo

    void promise13ThereIsNone() {
        refused("at first", new LeaseBook(), b -> b.undo(), Check.STATE);
        LeaseBook book = Books.three();
        book.undo();
        refused("when all are undone", book, b -> b.undo(), Check.STATE);
    }

    void promise13ReturnsHowManyAreLeft() {
        LeaseBook book = Books.full();
        for (int left = 5; left >= 0; left--) {
            due("undo", book, b -> b.undo(), left);
            due("count 10", book.count(10), left);
        }
    }

    void promise13AtMost6StatesAreSaved() {
        LeaseBook book = Books.plain(1000, 1);
        for (int calls = 2; calls <= 8; calls++) {
            book.impair(0, 1);
            due("count 10 behind " + calls, book.count(10), Math.min(calls, 6));
        }
    }

    void promise13SixCallsAreUndoneToTheFirstState() {
        LeaseBook book = Books.plain(1000, 1);
        for (int i = 0; i < 5; i++) {
            book.impair(0, 1);
        }
        for (int i = 0; i < 6; i++) {
            book.undo();
        }
        due("leases", book.count(0), 0);
    }

    void promise13TheOldestIsDroppedFirst() {
        LeaseBook book = Books.plain(1000, 1);
        for (int i = 0; i < 6; i++) {
            book.impair(0, 1);
        }
        for (int asset = 995; asset <= 1000; asset++) {
            book.undo();
            due("the asset", book.lease(0, 4), asset);
        }
        refused("a seventh undo", book, b -> b.undo(), Check.STATE);
    }

    /** Many more states than 6 come and go, in turns. */
    void promise13StatesAreDroppedAgainAndAgain() {
        LeaseBook book = Books.plain(100000, 1);
        List<Integer> saved = new ArrayList<>(List.of(0));
        int asset = 100000;
        for (int step = 0; step < 24; step++) {
            for (int i = 0; i < 2 + step % 8; i++) {
                saved.add(asset);
                asset = book.impair(0, 1 + step);
            }
            saved = new ArrayList<>(saved.subList(Math.max(0, saved.size() - 6), saved.size()));
            for (int i = Math.min(step % 6, saved.size() - 1); i > 0; i--) {
                asset = saved.remove(saved.size() - 1);
                due("undo in step " + step, book, b -> b.undo(), saved.size());
                due("asset in step " + step, book.lease(0, 4), asset);
            }
        }
    }

    void promise13AStateIsSavedAlsoIfNothingWasChanged() {
        LeaseBook book = Books.plain(0, 3);
        book.term(0, 3, 0);
        book.rent(0, 0);
        book.endPart(0, 1, 0);
        book.sublet(0, 1, 0, 1);
        due("saved states", book.count(10), 5);
    }

    private void undone(LeaseBook book, Call call) {
        long ahead = book.digest();
        call.on(book);
        due("saved states", book.count(10), 2);
        due("undo", book, b -> b.undo(), 1);
        due("the digest", book.digest(), ahead);
    }

    void promise13WhatTheCallsDoAtTheirLimitsIsUndone() {
        undone(Books.three(), b -> b.open(0, 1, 0, 0));
        undone(Books.three(), b -> b.open(100000, 60, 2000, 100000));
        undone(Books.three(), b -> b.term(0, 60, 0));
        undone(Books.three(), b -> b.rent(0, 0));
        undone(Books.three(), b -> b.endPart(0, 1000, 100000));
        undone(Books.three(), b -> b.impair(0, 2207));
        undone(Books.three(), b -> b.sublet(0, 1000, 100000, 3));
        undone(Books.three(), b -> b.pass(60));
    }

    void promise13AThrownExceptionSavesNothingAndDropsNothing() {
        LeaseBook book = Books.endedAndRunning();
        for (int i = 0; i < 6; i++) {
            book.impair(1, 1);
        }
        Books.write(book, EIGHT);
        refused("open", book, b -> b.open(-1, 1, 0, 0), Check.ARGUMENT);
        refused("term", book, b -> b.term(0, 1, 0), Check.STATE);
        refused("rent", book, b -> b.rent(2, 1), Check.INDEX);
        refused("endPart", book, b -> b.endPart(0, 1, 1), Check.STATE);
        refused("impair", book, b -> b.impair(1, 100000), Check.STATE);
        refused("sublet", book, b -> b.sublet(1, 1, 1, 60), Check.STATE);
        refused("pass", book, b -> b.pass(0), Check.ARGUMENT);
        refused("openAll", book, b -> b.openAll(), Check.STATE);
        for (int left = 5; left >= 0; left--) {
            due("undo", book, b -> b.undo(), left);
            due("asset", book.lease(1, 4), 3000 - left);
        }
    }

    void promise13WhatIsNotUndoableSavesNothing() {
        LeaseBook book = Books.three();
        book.append('1');
        book.firstError();
        book.clearBuffer();
        book.lease(0, 0);
        book.movement(0, 0);
        book.profit(0, 0);
        book.count(0);
        book.worth(1, 1, 1);
        book.plan(0, 1, 0);
        book.ifMeasured(0, 1, 1, 1, 0);
        book.paymentFor(0, 1);
        book.rateWithin(0);
        book.fairReceipt(0, 1, 1);
        book.offShare();
        book.digest();
        due("saved states", book.count(10), 1);
    }

    void promise13TheBufferIsNotRestored() {
        LeaseBook book = Books.written("1");
        book.open(1, 1, 0, 0);
        book.append('2');
        book.undo();
        due("what was appended stays", book.clearBuffer(), 2);
        book.open(1, 1, 0, 0);
        book.undo();
        due("what was cleared stays so", book.clearBuffer(), 0);
    }

    void promise13FromTheLastPeriod() {
        LeaseBook book = Books.inPeriod(2000);
        book.undo();
        due("the number of the period", book.count(2), 1980);
        due("pass", book, b -> b.pass(20), 2000);
    }

    void promise13WhatHadEndedRunsAgain() {
        LeaseBook book = Books.letOn();
        long ahead = book.digest();
        book.pass(60);
        book.undo();
        due("the digest", book.digest(), ahead);
        due("leases that run", book.count(3), 1);
        due("subleases that run", book.count(4), 2);
    }

    void promise13WhatIsUndoneIsNotThere() {
        LeaseBook book = Books.letOn();
        book.undo();
        refused("the sublease", book, b -> b.sublease(1, 0), Check.INDEX);
        book.undo();
        book.undo();
        refused("the lease", book, b -> b.lease(0, 0), Check.INDEX);
    }
}
