/** Promise 7: call. */
final class CallTest {
    public static void main(String[] args) {
        Check check = new Check("CallTest");
        CallBook book = new CallBook();
        check.due("call() in CALL", book.call(), 0);
        book.open();
        check.due("call() while GOING ON", book.call(), 1);
        check.due("told(0)", book.told(0), 0);
        check.due("call() again", book.call(), 0);
        book.place(0, false, 1000, 5, 0, 0);
        book.place(1, true, 1000, 5, 0, 0);
        check.due("orders rest in CALL again", book.told(6), 0);
        check.due("told(5)", book.told(5), 1);
        check.due("open()", book.open(), 5);

        book.band(1000, 1);
        book.place(2, false, 1500, 5, 2, 0);
        book.place(3, true, 0, 4, 0, 0);
        String stopped = Check.picture(book);
        check.due("call() when STOPPED", book.call(), 2);
        check.due("nothing but the phase is another", Check.picture(book).substring(1).equals(stopped.substring(1)), true);
        check.order(book, 3, 4, 4, 3);
        check.due("open()", book.open(), 4);
        check.end();
    }
}
