/** Promise 13: trade. */
final class TradeTest {
    public static void main(String[] args) {
        Check check = new Check("TradeTest");
        CallBook book = new CallBook();
        book.place(5, true, 1010, 4, 0, 0);
        book.place(6, false, 1010, 7, 0, 0);
        book.open();
        book.place(7, true, 1500, 1, 0, 0);
        book.place(8, true, 900, 1, 0, 0);
        book.place(9, false, 800, 1, 0, 0);
        check.trade(book, 0, 0, 1, 1010, 4);
        check.trade(book, 1, 2, 1, 1010, 1);
        check.trade(book, 2, 3, 4, 900, 1);
        check.trade(book, 3, -1, -1, -1, -1);
        int[] wrong = {-1, 4, Integer.MAX_VALUE, Integer.MIN_VALUE};
        for (int w : wrong) {
            check.due("trade(0, " + w + ")", book.trade(0, w), -1);
            check.trade(book, w, -1, -1, -1, -1);
            check.due("trade(" + w + ", " + w + ")", book.trade(w, w), -1);
        }
        book.cancelAll(6);
        check.trade(book, 1, 2, 1, 1010, 1);
        check.end();
    }
}
