/**
 * Promise 9: clearing, and the term CLEARING. The surplus never grows with the price, so the best
 * prices lie side by side and one of them alone is nearest to the reference: no book can show
 * the last rule, the lowest of those.
 */
final class ClearingTest {
    private static final Check check = new Check("ClearingTest");

    public static void main(String[] args) {
        wrongArguments();
        greatestVolume();
        leastSurplus();
        surplusOfEitherSign();
        nearestToTheReference();
        marketOrders();
        hiddenPartsCount();
        largeSums();
        changesNothing();
        check.end();
    }

    private static void clears(CallBook book, long price, long volume, long surplus) {
        check.due("clearing(0)", book.clearing(0), price);
        check.due("clearing(1)", book.clearing(1), volume);
        check.due("clearing(2)", book.clearing(2), surplus);
    }

    private static void wrongArguments() {
        CallBook book = new CallBook();
        for (int what : new int[] {-1, 3, Integer.MAX_VALUE, Integer.MIN_VALUE}) {
            check.argument(book, "clearing(" + what + ")", () -> book.clearing(what));
        }
    }

    private static void greatestVolume() {
        CallBook book = new CallBook();
        book.place(0, true, 1000, 5, 0, 0);
        clears(book, -1, 0, 0);
        book.place(0, false, 1001, 5, 0, 0);
        clears(book, -1, 0, 0);
        book.place(0, false, 900, 2, 0, 0);
        book.place(0, true, 1200, 4, 0, 0);
        // 2 move up to 1000, but 4 from 1001 on.
        clears(book, 1001, 4, -3);
    }

    private static void leastSurplus() {
        CallBook book = new CallBook();
        book.place(0, true, 1100, 5, 0, 0);
        book.place(0, true, 1050, 3, 0, 0);
        book.place(0, false, 900, 5, 0, 0);
        clears(book, 1051, 5, 0);
        book.place(0, false, 1070, 1, 0, 0);
        clears(book, 1051, 5, 0);
    }

    private static void surplusOfEitherSign() {
        CallBook book = new CallBook();
        book.place(0, true, 1100, 5, 0, 0);
        book.place(0, true, 990, 3, 0, 0);
        book.place(0, false, 900, 5, 0, 0);
        book.place(0, false, 991, 2, 0, 0);
        // Up to 990 there is a surplus of 3, from 991 on one of -2.
        clears(book, 1000, 5, -2);
        book.place(0, false, 991, 2, 0, 0);
        clears(book, 990, 5, 3);
        book.cancel(4);
        book.amend(3, 991, 3);
        // 3 and -3 are as little as one another; then 1000 is the nearest.
        clears(book, 1000, 5, -3);
        book.band(500, 0);
        clears(book, 900, 5, 3);
    }

    private static void nearestToTheReference() {
        CallBook book = new CallBook();
        book.place(0, true, 1010, 5, 0, 0);
        book.place(0, false, 990, 5, 0, 0);
        int[][] due = {{1, 990}, {990, 990}, {995, 995}, {1010, 1010}, {2000, 1010}};
        for (int[] row : due) {
            book.band(row[0], 0);
            clears(book, row[1], 5, 0);
        }
    }

    private static void marketOrders() {
        CallBook book = new CallBook();
        book.place(0, true, 0, 5, 0, 0);
        clears(book, -1, 0, 0);
        book.place(0, false, 0, 3, 0, 0);
        clears(book, 1000, 3, 2);
        book.place(0, false, 2000, 9, 0, 0);
        clears(book, 2000, 5, -7);
        book.place(0, true, 1, 9, 0, 0);
        clears(book, 2000, 5, -7);
        book.cancel(2);
        clears(book, 1000, 3, 2);
        book.cancel(0);
        clears(book, 1, 3, 6);
    }

    private static void hiddenPartsCount() {
        CallBook book = new CallBook();
        book.place(0, true, 1000, 50, 1, 0);
        book.place(0, false, 1000, 40, 7, 0);
        clears(book, 1000, 40, 10);
    }

    private static void largeSums() {
        CallBook book = new CallBook();
        for (int i = 0; i < 125; i++) {
            book.place(0, true, 2000, 100000, 0, 0);
            book.place(1, false, 1, 100000, 0, 0);
        }
        clears(book, 1000, 12500000L, 0);
    }

    private static void changesNothing() {
        CallBook book = new CallBook();
        book.place(0, true, 1000, 5, 0, 0);
        book.place(0, false, 1000, 5, 0, 0);
        String before = Check.picture(book);
        book.clearing(0);
        check.due("nothing changed", before.equals(Check.picture(book)), true);
        book.open();
        clears(book, -1, 0, 0);
    }
}
