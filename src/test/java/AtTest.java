/** Promise 11: at, and how the orders of a side stand. */
final class AtTest {
    public static void main(String[] args) {
        Check check = new Check("AtTest");
        CallBook book = new CallBook();
        int[] prices = {1000, 1001, 999, 0, 1000, 1001, 0, 1};
        for (int price : prices) {
            book.place(0, true, price, 1, 0, 0);
        }
        for (int price : prices) {
            book.place(0, false, price, 1, 0, 0);
        }
        check.line(book, true, 3, 6, 1, 5, 0, 4, 2, 7);
        check.line(book, false, 11, 14, 15, 10, 8, 12, 9, 13);
        for (int i : new int[] {-1, 8, 250, Integer.MAX_VALUE, Integer.MIN_VALUE}) {
            check.due("at(true, " + i + ")", book.at(true, i), -1);
            check.due("at(false, " + i + ")", book.at(false, i), -1);
        }
        book.cancel(6);
        book.cancel(7);
        check.line(book, true, 3, 1, 5, 0, 4, 2);
        book.amend(1, 1001, 2);
        check.line(book, true, 3, 5, 1, 0, 4, 2);
        check.end();
    }
}
