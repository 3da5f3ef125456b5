/** Promise 2: place, what it refuses, and how an order comes to rest in CALL. */
final class PlaceTest {
    private static final Check check = new Check("PlaceTest");

    public static void main(String[] args) {
        numbersAndRanks();
        wrongArguments();
        edgesOfArguments();
        wrongStates();
        argumentBeforeState();
        atMost250();
        check.end();
    }

    private static void numbersAndRanks() {
        CallBook book = new CallBook();
        check.due("first place", book.place(3, true, 1000, 10, 0, 0), 0);
        check.due("second place", book.place(4, false, 900, 20, 6, 0), 1);
        check.due("third place", book.place(5, true, 0, 30, 0, 0), 2);
        check.order(book, 0, 10, 10, 0);
        check.order(book, 1, 20, 6, 1);
        check.order(book, 2, 30, 30, 2);
        check.due("told(6): a call makes no trades", book.told(6), 0);
    }

    private static void refused(int owner, int price, int quantity, int peak, int life) {
        CallBook book = new CallBook();
        book.open();
        String call = "place(" + owner + ", true, " + price + ", " + quantity + ", " + peak + ", " + life + ")";
        check.argument(book, call, () -> book.place(owner, true, price, quantity, peak, life));
        check.argument(book, call + " to sell", () -> book.place(owner, false, price, quantity, peak, life));
    }

    private static void wrongArguments() {
        int most = Integer.MAX_VALUE;
        int least = Integer.MIN_VALUE;
        for (int owner : new int[] {-1, 10, most, least}) {
            refused(owner, 1000, 1, 0, 0);
        }
        for (int price : new int[] {-1, 2001, most, least}) {
            refused(0, price, 1, 0, 0);
        }
        for (int quantity : new int[] {-1, 0, 100001, most, least}) {
            refused(0, 1000, quantity, 0, 0);
        }
        // 50 times -60000000 comes out above 0 in an int.
        for (int peak : new int[] {-1, 100001, most, least, -60000000}) {
            refused(0, 1000, 1, peak, 0);
        }
        for (int life : new int[] {-1, 3, most, least}) {
            refused(0, 1000, 1, 0, life);
        }
        refused(0, 1000, 5, 5, 1);
        refused(0, 1000, 5, 5, 2);
        refused(0, 1000, 51, 1, 0);
        refused(0, 1000, 100000, 1999, 0);
    }

    private static void edgesOfArguments() {
        CallBook book = new CallBook();
        check.due("owner 0, price 1, quantity 1", book.place(0, true, 1, 1, 0, 0), 0);
        check.due("owner 9, price 2000, quantity 100000", book.place(9, false, 2000, 100000, 0, 0), 1);
        check.due("50 times the peak", book.place(0, true, 1, 50, 1, 0), 2);
        check.due("100000, 50 times the peak", book.place(0, true, 1, 100000, 2000, 0), 3);
        check.due("a peak above the quantity", book.place(0, true, 1, 3, 100000, 0), 4);
        check.order(book, 4, 3, 3, 4);
        check.due("a market order with a peak", book.place(0, true, 0, 9, 4, 0), 5);
        check.order(book, 5, 9, 4, 5);
    }

    private static void wrongStates() {
        CallBook book = new CallBook();
        check.state(book, "NOW in CALL", () -> book.place(0, true, 1000, 1, 0, 1));
        check.state(book, "WHOLE in CALL", () -> book.place(0, true, 1000, 1, 0, 2));
        book.open();
        check.due("NOW while GOING ON", book.place(0, true, 1000, 1, 0, 1), 0);
        check.due("WHOLE while GOING ON", book.place(0, true, 1000, 1, 0, 2), 1);
        stop(book);
        for (int life = 0; life < 3; life++) {
            int which = life;
            check.state(book, "life " + life + " when STOPPED", () -> book.place(0, true, 1000, 1, 0, which));
        }
        book.call();
        check.due("in CALL again", book.place(0, true, 1000, 1, 0, 0), 4);
    }

    private static void stop(CallBook book) {
        book.band(1000, 1);
        book.place(1, false, 1500, 1, 0, 0);
        book.place(2, true, 1500, 1, 0, 1);
        check.due("told(0)", book.told(0), 2);
    }

    private static void argumentBeforeState() {
        CallBook book = new CallBook();
        check.argument(book, "both wrong in CALL", () -> book.place(10, true, 1000, 1, 0, 1));
        check.argument(book, "a peak with a life in CALL", () -> book.place(1, true, 1000, 1, 1, 2));
        book.open();
        stop(book);
        check.argument(book, "both wrong when STOPPED", () -> book.place(1, true, 2001, 1, 0, 0));
    }

    private static void atMost250() {
        CallBook book = new CallBook();
        for (int i = 0; i < 250; i++) {
            check.due("place " + i, book.place(i % 10, true, 7, 1, 0, 0), i);
        }
        check.state(book, "a 251st order", () -> book.place(0, true, 7, 1, 0, 0));
        check.argument(book, "a wrong 251st order", () -> book.place(0, true, 7, 0, 0, 0));
        book.cancel(0);
        check.state(book, "after one is over", () -> book.place(0, true, 7, 1, 0, 0));
        check.due("told(3)", book.told(3), 250);
        check.argument(book, "order(250, 0)", () -> book.order(250, 0));
    }
}
