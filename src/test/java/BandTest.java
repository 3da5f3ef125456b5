/** Promise 8: band. */
final class BandTest {
    public static void main(String[] args) {
        Check check = new Check("BandTest");
        CallBook book = new CallBook();
        check.due("band(1, 0)", book.band(1, 0), 1000);
        check.due("band(2000, 2000)", book.band(2000, 2000), 1);
        check.due("told(1)", book.told(1), 2000);
        check.due("told(2)", book.told(2), 2000);
        for (int wrong : new int[] {-1, 2001, Integer.MAX_VALUE, Integer.MIN_VALUE}) {
            check.argument(book, "band(" + wrong + ", 0)", () -> book.band(wrong, 0));
            check.argument(book, "band(1000, " + wrong + ")", () -> book.band(1000, wrong));
        }
        check.argument(book, "band(0, 0)", () -> book.band(0, 0));
        check.due("band(1000, 3)", book.band(1000, 3), 2000);

        book.open();
        book.place(0, false, 1004, 5, 0, 0);
        check.due("band while GOING ON", book.band(1001, 3), 1000);
        book.place(1, true, 1004, 1, 0, 0);
        check.due("within the new band", book.told(6), 1);
        book.band(1000, 3);
        book.place(1, true, 1004, 1, 0, 0);
        check.due("out of the band", book.told(0), 2);
        check.due("band when STOPPED", book.band(1004, 0), 1000);
        check.due("it is STOPPED still", book.told(0), 2);
        check.due("told(2)", book.told(2), 0);
        check.end();
    }
}
