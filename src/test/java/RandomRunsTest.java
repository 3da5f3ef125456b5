import java.util.List;
import java.util.Random;

/** Promises 1 to 15 together: long runs of calls, each answer and state set beside PlainBook's. */
final class RandomRunsTest {
    private static final int RUNS = 240;
    private static final int CALLS = 512;

    private final Check check;
    private final Random random;
    private final CallBook book = new CallBook();
    private final PlainBook plain = new PlainBook();
    private final int run;
    private final int spread;
    private final int quantities;

    private RandomRunsTest(Check check, int run) {
        this.check = check;
        this.run = run;
        random = new Random(20261115L + run);
        spread = new int[] {3, 10, 60, 999}[run % 4];
        quantities = new int[] {5, 40, 300, 100000}[run / 4 % 4];
    }

    public static void main(String[] args) {
        Check check = new Check("RandomRunsTest");
        for (int run = 0; run < RUNS; run++) {
            new RandomRunsTest(check, run).go();
        }
        check.end();
    }

    private void go() {
        int tradesSeen = 0;
        for (int i = 0; i < CALLS; i++) {
            both();
            tradesSeen = compare(i, tradesSeen);
        }
    }

    private static long answer(Check.Call call) {
        try {
            return call.run();
        } catch (IllegalArgumentException e) {
            return -1000001;
        } catch (IllegalStateException e) {
            return -1000002;
        }
    }

    private void both(String call, Check.Call program, Check.Call model) {
        check.due("run " + run + ": " + call, answer(program), answer(model));
    }

    private void both() {
        int dice = random.nextInt(100);
        if (dice < 55) {
            place();
        } else if (dice < 75) {
            amend();
        } else if (dice < 82) {
            int order = random.nextInt(plain.entries.size() + 2) - 1;
            both("cancel(" + order + ")", () -> book.cancel(order), () -> plain.cancel(order));
        } else if (dice < 84) {
            int owner = random.nextInt(12) - 1;
            both("cancelAll(" + owner + ")", () -> book.cancelAll(owner), () -> plain.cancelAll(owner));
        } else if (dice < 92) {
            both("open()", () -> book.open(), () -> plain.open());
        } else if (dice < 95) {
            both("call()", () -> book.call(), () -> plain.call());
        } else {
            int reference = random.nextInt(20) == 0 ? random.nextInt(2004) - 1 : 1000 + random.nextInt(9) - 4;
            int band = random.nextInt(3) == 0 ? 0 : random.nextInt(20) == 0 ? random.nextInt(2004) - 1 : random.nextInt(spread + 2);
            both("band(" + reference + ", " + band + ")", () -> book.band(reference, band), () -> plain.band(reference, band));
        }
    }

    private int price() {
        int dice = random.nextInt(40);
        if (dice < 4) {
            return 0;
        }
        if (dice == 4) {
            return new int[] {-1, 1, 2000, 2001}[random.nextInt(4)];
        }
        return 1000 + random.nextInt(2 * spread + 1) - spread;
    }

    private int quantity() {
        int dice = random.nextInt(50);
        return dice == 0 ? new int[] {-1, 0, 100000, 100001}[random.nextInt(4)] : 1 + random.nextInt(quantities);
    }

    private void place() {
        int owner = random.nextInt(60) == 0 ? (random.nextBoolean() ? -1 : 10) : random.nextInt(10);
        boolean buys = random.nextBoolean();
        int price = price();
        int quantity = quantity();
        int life = random.nextInt(60) == 0 ? random.nextInt(5) - 1 : random.nextInt(10) < 6 ? 0 : random.nextInt(3);
        int peak = 0;
        if (random.nextInt(3) == 0 && (life == 0 || random.nextInt(10) == 0)) {
            peak = random.nextInt(30) == 0 ? new int[] {-1, 100000, 100001}[random.nextInt(3)] : 1 + random.nextInt(1 + quantities / 8);
        }
        int p = peak;
        String call = "place(" + owner + ", " + buys + ", " + price + ", " + quantity + ", " + p + ", " + life + ")";
        both(call, () -> book.place(owner, buys, price, quantity, p, life),
                () -> plain.place(owner, buys, price, quantity, p, life));
    }

    private void amend() {
        int order = pickForAmend();
        boolean known = order >= 0 && order < plain.entries.size();
        int price = known && random.nextBoolean() ? plain.entries.get(order).price : price();
        int quantity = known && random.nextBoolean() && plain.entries.get(order).left > 0
                ? plain.entries.get(order).left - random.nextInt(3) + 1 : quantity();
        both("amend(" + order + ", " + price + ", " + quantity + ")",
                () -> book.amend(order, price, quantity) ? 1 : 0, () -> plain.amend(order, price, quantity) ? 1 : 0);
    }

    private int pickForAmend() {
        List<PlainBook.Entry> line = plain.line(random.nextBoolean());
        if (line.isEmpty() || random.nextInt(8) == 0) {
            return random.nextInt(plain.entries.size() + 2) - 1;
        }
        return line.get(random.nextInt(line.size())).number;
    }

    private int compare(int call, int tradesSeen) {
        String where = "run " + run + " after call " + call + ": ";
        for (int what = -1; what < 9; what++) {
            check.due(where + "told(" + what + ")", book.told(what), plain.told(what));
        }
        for (int order = 0; order < plain.entries.size(); order++) {
            for (int what = 0; what < 9; what++) {
                if (book.order(order, what) != plain.order(order, what)) {
                    check.due(where + "order(" + order + ", " + what + ")", book.order(order, what), plain.order(order, what));
                }
            }
        }
        compareLine(where, true);
        compareLine(where, false);
        long[] clearing = plain.clearing();
        for (int what = 0; what < 3; what++) {
            check.due(where + "clearing(" + what + ")", book.clearing(what), clearing[what]);
        }
        int price = price();
        boolean buys = random.nextBoolean();
        boolean left = random.nextBoolean();
        both(where + "depth(" + buys + ", " + price + ", " + left + ")",
                () -> book.depth(buys, price, left), () -> plain.depth(buys, price, left));
        check.due(where + "astray()", book.astray(), 0);
        return compareTrades(tradesSeen);
    }

    private void compareLine(String where, boolean buys) {
        List<PlainBook.Entry> line = plain.line(buys);
        for (int i = 0; i < line.size(); i++) {
            check.due(where + "at(" + buys + ", " + i + ")", book.at(buys, i), line.get(i).number);
        }
        check.due(where + "at(" + buys + ", size)", book.at(buys, line.size()), -1);
        check.due(where + "at(" + buys + ", -1)", book.at(buys, -1), -1);
    }

    private int compareTrades(int seen) {
        for (int i = seen; i < plain.trades.size(); i++) {
            check.trade(book, i, plain.trades.get(i));
        }
        return plain.trades.size();
    }
}
