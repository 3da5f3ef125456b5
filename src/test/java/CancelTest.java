/** Promise 3: cancel. */
final class CancelTest {
    public static void main(String[] args) {
        Check check = new Check("CancelTest");
        CallBook book = new CallBook();
        check.argument(book, "cancel(0) of none", () -> book.cancel(0));
        book.place(0, true, 1000, 10, 3, 0);
        book.place(1, true, 1000, 7, 0, 0);
        book.place(2, false, 1000, 4, 0, 0);
        for (int order : new int[] {-1, 3, 250, Integer.MAX_VALUE, Integer.MIN_VALUE}) {
            check.argument(book, "cancel(" + order + ")", () -> book.cancel(order));
        }
        check.due("cancel(1)", book.cancel(1), 7);
        check.over(book, 1);
        check.due("order(1, 2): the price stays", book.order(1, 2), 1000);
        check.state(book, "cancel(1) again", () -> book.cancel(1));
        check.line(book, true, 0);
        book.open();
        check.due("cancel(0) while GOING ON, the hidden part too", book.cancel(0), 6);
        check.due("traded stays", book.order(0, 7), 4);
        check.state(book, "cancel(2), that is traded", () -> book.cancel(2));
        check.line(book, true);

        book.band(1000, 1);
        book.place(3, false, 1500, 5, 0, 0);
        book.place(4, true, 0, 5, 0, 0);
        check.due("told(0)", book.told(0), 2);
        check.due("cancel(4) when STOPPED", book.cancel(4), 5);
        check.due("told(0)", book.told(0), 2);
        check.due("told(4)", book.told(4), 0);
        check.due("told(5)", book.told(5), 1);
        check.end();
    }
}
