/** Promise 12: depth. */
final class DepthTest {
    public static void main(String[] args) {
        Check check = new Check("DepthTest");
        CallBook book = new CallBook();
        book.place(0, true, 1000, 10, 3, 0);
        book.place(1, true, 1000, 5, 0, 0);
        book.place(2, true, 999, 7, 0, 0);
        book.place(3, false, 1000, 11, 2, 0);
        book.place(4, true, 0, 8, 6, 0);
        book.place(5, true, 1000, 9, 0, 0);
        book.cancel(5);
        check.due("shown at 1000", book.depth(true, 1000, false), 8);
        check.due("left at 1000", book.depth(true, 1000, true), 15);
        check.due("shown at 999", book.depth(true, 999, false), 7);
        check.due("shown to sell", book.depth(false, 1000, false), 2);
        check.due("left to sell", book.depth(false, 1000, true), 11);
        check.due("market orders shown", book.depth(true, 0, false), 6);
        check.due("market orders left", book.depth(true, 0, true), 8);
        check.due("no market orders to sell", book.depth(false, 0, true), 0);
        check.due("price 1", book.depth(true, 1, true), 0);
        check.due("price 2000", book.depth(true, 2000, true), 0);
        for (int price : new int[] {-1, 2001, Integer.MAX_VALUE, Integer.MIN_VALUE}) {
            check.argument(book, "depth(true, " + price + ", true)", () -> book.depth(true, price, true));
            check.argument(book, "depth(false, " + price + ", false)", () -> book.depth(false, price, false));
        }
        book.open();
        check.due("market orders after open", book.depth(true, 0, true), 0);
        check.due("left at 1000 after open", book.depth(true, 1000, true), 12);
        check.end();
    }
}
