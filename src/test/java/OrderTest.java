/** Promise 10: order. */
final class OrderTest {
    private static final Check check = new Check("OrderTest");

    public static void main(String[] args) {
        CallBook book = new CallBook();
        book.place(7, true, 1234, 40, 9, 0);
        book.place(8, false, 0, 50, 0, 0);
        told(book, 0, 7, 1, 1234, 40, 9, 0, 0, 0, 9);
        told(book, 1, 8, 0, 0, 50, 50, 1, 0, 0, 0);
        book.open();
        told(book, 0, 7, 1, 1234, 0, 0, -1, 0, 40, 9);
        told(book, 1, 8, 0, 0, 0, 0, -1, 0, 40, 0);
        book.place(3, true, 1100, 5, 0, 1);
        book.place(4, false, 1100, 6, 0, 2);
        told(book, 2, 3, 1, 1100, 0, 0, -1, 1, 0, 0);
        told(book, 3, 4, 0, 1100, 0, 0, -1, 2, 0, 0);
        for (int what : new int[] {-1, 9, Integer.MAX_VALUE, Integer.MIN_VALUE}) {
            check.argument(book, "order(0, " + what + ")", () -> book.order(0, what));
        }
        for (int order : new int[] {-1, 4, Integer.MAX_VALUE, Integer.MIN_VALUE}) {
            check.argument(book, "order(" + order + ", 0)", () -> book.order(order, 0));
        }
        check.end();
    }

    private static void told(CallBook book, int order, int... due) {
        for (int what = 0; what < due.length; what++) {
            check.due("order(" + order + ", " + what + ")", book.order(order, what), due[what]);
        }
    }
}
