import java.util.Random;
import java.util.function.LongSupplier;

/** Long runs of calls, by a fixed seed, on a LeaseBook and on the Model: every answer must be the same. */
final class ModelTest {
    private static final int RUNS = 300;
    /** What an object answers behind its 512th call is free. */
    private static final int CALLS = 512;
    /** The calls that a turn makes at the most: those that write a piece of the text, and a digest. */
    private static final int CALLS_OF_A_TURN = 24;
    /** The Model's digest looks at every rate, so it is not asked behind every turn. */
    private static final int DIGEST_EVERY = 7;
    private static final int[] ODD = {Integer.MIN_VALUE, -1, 0, 1, 2, 3, 8, 11, 12, 16, 17, 59, 60, 61, 999, 1000,
        1001, 1999, 2000, 2001, 99999, 100000, 100001, 1000000, 1000001, 10000000, 10000001, Integer.MAX_VALUE};
    private static final String[] PIECES = {"0", "1", "2", "9", "60", "100000", "2000", "*", "@", "+", ";", "5*2@3",
        "0*1@0", ";1*60@2000+100000", "100000*60@0", "77*7@70+7", "x", "~", "!", ","};

    private final Check check = new Check();
    private final Random random;
    private final int oddness;
    /** Runs that hurry begin in a late period, and come to the last one. */
    private final boolean hurries;
    private final LeaseBook book = new LeaseBook();
    private final Model model = new Model();
    private int calls;

    private ModelTest(int seed) {
        random = new Random(seed);
        oddness = seed % 4 == 0 ? 3 : 40;
        hurries = seed % 5 == 1;
    }

    public static void main(String[] args) {
        boolean wrong = false;
        for (int seed = 0; seed < RUNS && !wrong; seed++) {
            ModelTest test = new ModelTest(seed);
            test.run(seed);
            wrong = test.check.anyWrong();
        }
        System.out.println("ModelTest: " + (wrong ? "the answers differ" : "all answers are the same"));
        if (wrong) {
            System.exit(1);
        }
    }

    private void run(int seed) {
        for (int i = 0; hurries && i < 30; i++) {
            same("seed " + seed, "pass", () -> book.pass(60), () -> model.pass(60));
        }
        for (int turn = 0; calls <= CALLS - CALLS_OF_A_TURN && !check.anyWrong(); turn++) {
            String where = "seed " + seed + " turn " + turn;
            oneTurn(where);
            if (turn % DIGEST_EVERY == 0) {
                same(where, "digest", () -> book.digest(), () -> model.digest());
            }
        }
    }

    private int number(int least, int most) {
        if (random.nextInt(oddness) == 0) {
            return ODD[random.nextInt(ODD.length)];
        }
        switch (random.nextInt(8)) {
            case 0: return least;
            case 1: return most;
            case 2: return least + random.nextInt(Math.min(20, most - least + 1));
            default: return least + random.nextInt(most - least + 1);
        }
    }

    private int lease() {
        return random.nextInt(oddness) == 0 ? number(0, 8) : random.nextInt(Math.max(1, model.count(0)));
    }

    private void same(String where, String call, LongSupplier got, LongSupplier want) {
        calls++;
        String due = Check.outcome(want);
        check.same(where + ": " + call, Check.outcome(got), due);
    }

    private void oneTurn(String where) {
        int kind = random.nextInt(26);
        if (kind < 12) {
            change(where, kind);
        } else if (kind < 16) {
            write(where, kind);
        } else if (kind < 20) {
            look(where, kind);
        } else {
            forecast(where, kind);
        }
    }

    private void change(String where, int kind) {
        int lease = lease();
        int money = number(0, 100000);
        int periods = number(1, 60);
        int rate = number(0, 2000);
        int other = number(0, 100000);
        int thousandths = random.nextBoolean() ? number(1, 300) : number(1, 1000);
        switch (kind) {
            case 0:
            case 1:
                if (hurries) {
                    same(where, "pass", () -> book.pass(periods), () -> model.pass(periods));
                }
                same(where, "open", () -> book.open(money, periods, rate, other),
                        () -> model.open(money, periods, rate, other));
                break;
            case 2:
                same(where, "term", () -> book.term(lease, periods, rate), () -> model.term(lease, periods, rate));
                break;
            case 3:
                same(where, "rent", () -> book.rent(lease, money), () -> model.rent(lease, money));
                break;
            case 4:
                same(where, "endPart", () -> book.endPart(lease, thousandths, other),
                        () -> model.endPart(lease, thousandths, other));
                break;
            case 5:
                int amount = number(1, random.nextBoolean() ? 20000 : 1000000);
                same(where, "impair", () -> book.impair(lease, amount), () -> model.impair(lease, amount));
                break;
            case 6:
            case 7:
            case 8:
                int term = random.nextBoolean() ? number(1, 10) : periods;
                same(where, "sublet", () -> book.sublet(lease, thousandths, money, term),
                        () -> model.sublet(lease, thousandths, money, term));
                break;
            case 9:
            case 10:
                int passed = hurries || random.nextInt(4) == 0 ? number(1, 60) : number(1, 5);
                same(where, "pass", () -> book.pass(passed), () -> model.pass(passed));
                break;
            default:
                same(where, "undo", () -> book.undo(), () -> model.undo());
        }
    }

    private void write(String where, int kind) {
        if (kind < 14) {
            String piece = PIECES[random.nextInt(PIECES.length)];
            for (int i = 0; i < piece.length(); i++) {
                int code = piece.charAt(i);
                same(where, "append", () -> book.append(code), () -> model.append(code));
            }
            int code = number(33, 126);
            if (random.nextInt(oddness) == 0) {
                same(where, "append", () -> book.append(code), () -> model.append(code));
            }
        } else if (kind == 14 && random.nextInt(3) == 0) {
            same(where, "clearBuffer", () -> book.clearBuffer(), () -> model.clearBuffer());
        } else if (kind == 15) {
            same(where, "openAll", () -> book.openAll(), () -> model.openAll());
        }
        same(where, "firstError", () -> book.firstError(), () -> model.firstError());
    }

    private void look(String where, int kind) {
        int lease = lease();
        int what = number(0, 10);
        int movement = number(0, 16);
        int sublease = number(0, 11);
        switch (kind) {
            case 16:
                same(where, "lease", () -> book.lease(lease, what), () -> model.lease(lease, what));
                same(where, "count", () -> book.count(what), () -> model.count(what));
                break;
            case 17:
                same(where, "sublease", () -> book.sublease(sublease, what), () -> model.sublease(sublease, what));
                break;
            case 18:
                same(where, "movement", () -> book.movement(lease, movement), () -> model.movement(lease, movement));
                break;
            default:
                same(where, "profit", () -> book.profit(lease, what), () -> model.profit(lease, what));
                same(where, "offShare", () -> Double.doubleToRawLongBits(book.offShare()),
                        () -> Double.doubleToRawLongBits(model.offShare()));
        }
    }

    private void forecast(String where, int kind) {
        int lease = lease();
        int money = number(0, 100000);
        int periods = number(0, 60);
        int rate = number(0, 2000);
        int what = number(0, 3);
        int thousandths = number(1, 1000);
        switch (kind) {
            case 20:
                same(where, "worth", () -> book.worth(money, periods, rate), () -> model.worth(money, periods, rate));
                break;
            case 21:
                same(where, "plan", () -> book.plan(lease, periods, what), () -> model.plan(lease, periods, what));
                break;
            case 22:
                same(where, "ifMeasured", () -> book.ifMeasured(lease, money, periods, rate, what),
                        () -> model.ifMeasured(lease, money, periods, rate, what));
                break;
            case 23:
                int liability = number(0, random.nextBoolean() ? 100000 : 10000000);
                same(where, "paymentFor", () -> book.paymentFor(lease, liability),
                        () -> model.paymentFor(lease, liability));
                break;
            case 24:
                same(where, "rateWithin", () -> book.rateWithin(lease), () -> model.rateWithin(lease));
                break;
            default:
                same(where, "fairReceipt", () -> book.fairReceipt(lease, thousandths, periods),
                        () -> model.fairReceipt(lease, thousandths, periods));
        }
    }
}
