/** Promise 4: cancelAll. */
final class CancelAllTest {
    public static void main(String[] args) {
        Check check = new Check("CancelAllTest");
        CallBook book = new CallBook();
        check.due("cancelAll(0) of none", book.cancelAll(0), 0);
        book.place(9, true, 900, 10, 0, 0);
        book.place(0, true, 901, 10, 0, 0);
        book.place(9, false, 1100, 10, 3, 0);
        book.place(9, true, 0, 10, 0, 0);
        book.place(9, true, 902, 10, 0, 0);
        book.place(1, false, 1101, 10, 0, 0);
        book.cancel(4);
        for (int owner : new int[] {-1, 10, Integer.MAX_VALUE, Integer.MIN_VALUE}) {
            check.argument(book, "cancelAll(" + owner + ")", () -> book.cancelAll(owner));
        }
        check.due("cancelAll(5)", book.cancelAll(5), 0);
        check.due("cancelAll(9)", book.cancelAll(9), 3);
        for (int order : new int[] {0, 2, 3, 4}) {
            check.over(book, order);
        }
        check.line(book, true, 1);
        check.line(book, false, 5);
        check.due("cancelAll(9) again", book.cancelAll(9), 0);
        check.due("cancelAll(0)", book.cancelAll(0), 1);
        check.due("told(3)", book.told(3), 6);
        check.end();
    }
}
