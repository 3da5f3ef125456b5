/** Promise 14: told. */
final class ToldTest {
    private static final Check check = new Check("ToldTest");

    public static void main(String[] args) {
        CallBook book = new CallBook();
        book.place(0, true, 1010, 4, 0, 0);
        book.place(1, true, 1009, 4, 0, 0);
        book.place(2, false, 1010, 7, 0, 0);
        told(book, 0, 1000, 0, 3, 2, 1, 0, 0);
        book.open();
        told(book, 1, 1010, 0, 3, 1, 1, 1, 4);
        book.band(1011, 6);
        book.place(3, true, 1010, 5, 0, 1);
        told(book, 1, 1011, 6, 4, 1, 0, 2, 7);
        book.place(3, false, 1900, 5, 0, 0);
        book.place(3, true, 0, 5, 0, 0);
        told(book, 2, 1011, 6, 6, 2, 1, 2, 7);
        for (int what : new int[] {-1, 8, Integer.MAX_VALUE, Integer.MIN_VALUE}) {
            check.due("told(" + what + ")", book.told(what), -1);
        }
        manyTraded();
        check.end();
    }

    private static void told(CallBook book, long... due) {
        for (int what = 0; what < due.length; what++) {
            check.due("told(" + what + ")", book.told(what), due[what]);
        }
    }

    private static void manyTraded() {
        CallBook book = new CallBook();
        for (int i = 0; i < 250; i++) {
            book.place(0, i % 2 == 0, 1000, 100000, 0, 0);
        }
        book.open();
        told(book, 1, 1000, 0, 250, 0, 0, 125, 12500000);
    }
}
