/** 21780 trades within 512 calls, near the most that there can be: all are kept, and told. */
final class RoomTest {
    private static final int ORDERS = 220;

    public static void main(String[] args) {
        Check check = new Check("RoomTest");
        CallBook book = new CallBook();
        book.open();
        int calls = 1;
        for (int i = 0; i < ORDERS; i++, calls++) {
            book.place(0, false, 1000, 50, 1, 0);
        }
        book.place(1, true, 1000, 49 * ORDERS, 0, 0);
        calls++;
        for (int i = 0; i < ORDERS; i++, calls++) {
            book.amend(i, 1000, 50);
        }
        book.place(1, true, 1000, 50 * ORDERS, 0, 0);
        calls++;
        check.due("within 512 calls", calls <= 512, true);
        int trades = 99 * ORDERS;
        check.due("told(6)", book.told(6), trades);
        check.due("told(7)", book.told(7), trades);
        check.trade(book, trades - 1, ORDERS + 1, ORDERS - 1, 1000, 1);
        check.trade(book, trades, -1, -1, -1, -1);
        check.due("astray()", book.astray(), 0);
        beyondTheLimit(check);
        check.end();
    }

    /** What later calls answer is free, but none may throw by itself. */
    private static void beyondTheLimit(Check check) {
        CallBook book = new CallBook();
        book.open();
        for (int i = 0; i < ORDERS; i++) {
            book.place(0, false, 1000, 50, 1, 0);
        }
        for (int round = 0; round < 5; round++) {
            book.place(1, true, 1000, 49 * ORDERS, 0, 0);
            for (int i = 0; i < ORDERS; i++) {
                book.amend(i, 1000, 50);
            }
        }
        check.due("all that was traded", book.told(7), 5L * 49 * ORDERS);
        check.due("trades that are kept have an end", book.told(6) < 5L * 49 * ORDERS, true);
        check.due("trade(told(6), 0)", book.trade((int) book.told(6), 0), -1);
        check.due("astray()", book.astray(), 0);
    }
}
