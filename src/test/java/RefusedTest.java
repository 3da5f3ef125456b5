import java.util.Random;

/**
 * A call that throws changes nothing: one of two books gets every refused call that fits its state
 * before each call that both get, and the two never differ, in an answer or in what they tell.
 */
final class RefusedTest {
    private static final int RUNS = 5;
    private static final int CALLS = 120;

    private final Check check;
    private final Random random;
    private final CallBook teased = new CallBook();
    private final CallBook calm = new CallBook();

    private RefusedTest(Check check, long seed) {
        this.check = check;
        random = new Random(seed);
    }

    public static void main(String[] args) {
        Check check = new Check("RefusedTest");
        check.says("A call that throws changes nothing.");
        for (int run = 0; run < RUNS; run++) {
            new RefusedTest(check, 512 + run).go();
        }
        check.end();
    }

    private void go() {
        for (int i = 0; i < CALLS; i++) {
            tease();
            long seed = random.nextLong();
            check.due("call " + i, oneCall(teased, new Random(seed)), oneCall(calm, new Random(seed)));
            check.due("both tell the same", Check.picture(teased).equals(Check.picture(calm)), true);
        }
    }

    private void tease() {
        wrongPlaces();
        wrongOthers();
        wrongStates();
    }

    private void argument(String call, Runnable run) {
        check.argument(teased, call, run);
    }

    private void state(String call, Runnable run) {
        check.state(teased, call, run);
    }

    private void wrongPlaces() {
        argument("place, owner -1", () -> teased.place(-1, true, 1000, 5, 0, 0));
        argument("place, owner 10", () -> teased.place(10, false, 1000, 5, 0, 0));
        argument("place, price -1", () -> teased.place(0, true, -1, 5, 0, 0));
        argument("place, price 2001", () -> teased.place(0, false, 2001, 5, 0, 0));
        argument("place, quantity 0", () -> teased.place(0, true, 1000, 0, 0, 0));
        argument("place, quantity 100001", () -> teased.place(0, false, 1000, 100001, 0, 0));
        argument("place, peak -1", () -> teased.place(0, true, 1000, 5, -1, 0));
        argument("place, peak 100001", () -> teased.place(0, false, 1000, 5, 100001, 0));
        argument("place, life -1", () -> teased.place(0, true, 1000, 5, 0, -1));
        argument("place, life 3", () -> teased.place(0, false, 1000, 5, 0, 3));
        argument("place, a peak and NOW", () -> teased.place(0, true, 0, 5, 5, 1));
        argument("place, a peak and WHOLE", () -> teased.place(0, false, 0, 5, 5, 2));
        argument("place, 51 peaks", () -> teased.place(0, true, 0, 51, 1, 0));
    }

    private void wrongOthers() {
        int none = (int) teased.told(3);
        argument("cancel(-1)", () -> teased.cancel(-1));
        argument("cancel of none", () -> teased.cancel(none));
        argument("cancelAll(-1)", () -> teased.cancelAll(-1));
        argument("cancelAll(10)", () -> teased.cancelAll(10));
        argument("amend(-1, ..)", () -> teased.amend(-1, 1000, 5));
        argument("amend of none", () -> teased.amend(none, 1000, 5));
        argument("band(0, 0)", () -> teased.band(0, 0));
        argument("band(2001, 1)", () -> teased.band(2001, 1));
        argument("band(1, -1)", () -> teased.band(1, -1));
        argument("band(1, 2001)", () -> teased.band(1, 2001));
        argument("clearing(3)", () -> teased.clearing(3));
        argument("order of none", () -> teased.order(none, 3));
        argument("depth at 2001", () -> teased.depth(true, 2001, true));
        for (int order = 0; order < none; order += 7) {
            int which = order;
            argument("amend, price -1", () -> teased.amend(which, -1, 5));
            argument("amend, price 2001", () -> teased.amend(which, 2001, 5));
            argument("amend, quantity 0", () -> teased.amend(which, 1000, 0));
            argument("amend, quantity 100001", () -> teased.amend(which, 1000, 100001));
            argument("order(.., 9)", () -> teased.order(which, 9));
            if (teased.order(order, 8) != 0) {
                argument("amend, 51 peaks", () -> teased.amend(which, 1000, 50 * teased.order(which, 8) + 1));
            }
        }
    }

    private void wrongStates() {
        boolean going = teased.told(0) == 1;
        boolean stopped = teased.told(0) == 2;
        if (going) {
            state("open()", () -> teased.open());
        } else {
            state("place, NOW", () -> teased.place(0, true, 0, 5, 0, 1));
            state("place, WHOLE", () -> teased.place(0, false, 0, 5, 0, 2));
        }
        if (stopped) {
            state("place, STOPPED", () -> teased.place(0, true, 1000, 5, 0, 0));
        }
        for (int order = 0; order < teased.told(3); order += 5) {
            int which = order;
            boolean over = teased.order(order, 5) == CallBook.NONE;
            if (over) {
                state("cancel of one that is over", () -> teased.cancel(which));
            }
            if (over || stopped) {
                state("amend of one that is over, or STOPPED", () -> teased.amend(which, 1000, 1));
            }
        }
    }

    /** A call that both books take alike, with what it answers. */
    private static long oneCall(CallBook book, Random random) {
        int dice = random.nextInt(20);
        int order = random.nextInt((int) book.told(3) + 1);
        if (book.told(0) == 2) {
            return dice < 14 ? book.open() : book.call();
        }
        if (dice == 0) {
            return book.call();
        }
        if (dice == 1 || (book.told(0) == 0 && dice < 5)) {
            return book.told(0) == 1 ? book.cancelAll(random.nextInt(10)) : book.open();
        }
        if (dice == 6) {
            return book.band(990 + random.nextInt(20), random.nextInt(12));
        }
        if (dice < 10 && order < book.told(3) && book.order(order, 5) != CallBook.NONE) {
            if (dice == 7) {
                return book.cancel(order);
            }
            return book.amend(order, 990 + random.nextInt(20), 1 + random.nextInt(40)) ? 1 : 0;
        }
        int life = book.told(0) == 1 && random.nextInt(4) == 0 ? 1 + random.nextInt(2) : 0;
        int peak = life == 0 && random.nextInt(3) == 0 ? 1 + random.nextInt(9) : 0;
        int price = random.nextInt(9) == 0 ? 0 : 990 + random.nextInt(20);
        return book.place(random.nextInt(10), random.nextBoolean(), price, 1 + random.nextInt(40), peak, life);
    }
}
