/** Promise 1: a new object. */
final class NewObjectTest {
    public static void main(String[] args) {
        Check check = new Check("NewObjectTest");
        CallBook book = new CallBook();
        check.due("NONE", CallBook.NONE, -1);
        int[] told = {0, 1000, 0, 0, 0, 0, 0, 0};
        for (int what = 0; what < told.length; what++) {
            check.due("told(" + what + ")", book.told(what), told[what]);
        }
        check.line(book, true);
        check.line(book, false);
        check.trade(book, 0, -1, -1, -1, -1);
        check.due("clearing(0)", book.clearing(0), -1);
        check.due("clearing(1)", book.clearing(1), 0);
        check.due("clearing(2)", book.clearing(2), 0);
        check.due("depth(true, 0, true)", book.depth(true, 0, true), 0);
        check.due("astray()", book.astray(), 0);
        check.argument(book, "order(0, 0)", () -> book.order(0, 0));

        book.place(0, true, 5, 1, 0, 0);
        check.due("told(3) of another new object", new CallBook().told(3), 0);
        check.end();
    }
}
