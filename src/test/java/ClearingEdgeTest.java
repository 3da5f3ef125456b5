/** The edges that the term CLEARING names, a method for each sentence. */
final class ClearingEdgeTest {
    private static final Check check = new Check("ClearingEdgeTest");

    public static void main(String[] args) {
        wanted();
        offered();
        hiddenIsLeftToo();
        pricesFrom1To2000();
        greatestVolume();
        leastSurplus();
        nearestToTheReference();
        noPrice();
        fullBook();
        check.end();
    }

    private static void clears(CallBook book, long price, long volume, long surplus) {
        check.due("clearing(0)", book.clearing(0), price);
        check.due("clearing(1)", book.clearing(1), volume);
        check.due("clearing(2)", book.clearing(2), surplus);
    }

    private static CallBook with(int buyAt, int toBuy, int sellAt, int toSell) {
        CallBook book = new CallBook();
        book.place(0, true, buyAt, toBuy, 0, 0);
        book.place(1, false, sellAt, toSell, 0, 0);
        return book;
    }

    private static void wanted() {
        check.says("WANTED is what is left of all market orders to buy and those with a price not below p");
        clears(with(999, 5, 1000, 5), -1, 0, 0);
        clears(with(1000, 5, 1000, 5), 1000, 5, 0);
        clears(with(0, 5, 1000, 5), 1000, 5, 0);
        CallBook book = with(1000, 5, 1000, 5);
        book.place(0, true, 999, 7, 0, 0);
        clears(book, 1000, 5, 0);
        book.place(0, true, 1000, 2, 0, 0);
        clears(book, 1000, 5, 2);
        book.place(0, true, 0, 1, 0, 0);
        clears(book, 1000, 5, 3);
    }

    private static void offered() {
        check.says("OFFERED that of market orders to sell and those with a price not above p");
        clears(with(1000, 5, 1001, 5), -1, 0, 0);
        clears(with(1000, 5, 0, 5), 1000, 5, 0);
        CallBook book = with(1000, 5, 1000, 5);
        book.place(0, false, 1001, 7, 0, 0);
        clears(book, 1000, 5, 0);
        book.place(0, false, 1000, 2, 0, 0);
        clears(book, 1000, 5, -2);
        book.place(0, false, 0, 1, 0, 0);
        clears(book, 1000, 5, -3);
    }

    private static void hiddenIsLeftToo() {
        check.says("what is left of all market orders");
        CallBook book = new CallBook();
        book.place(0, true, 0, 50, 1, 0);
        book.place(0, false, 0, 49, 1, 0);
        clears(book, 1000, 49, 1);
    }

    private static void pricesFrom1To2000() {
        check.says("THE PRICE is that of 1 .. 2000");
        clears(with(1, 5, 1, 5), 1, 5, 0);
        clears(with(1, 5, 0, 5), 1, 5, 0);
        clears(with(2000, 5, 2000, 5), 2000, 5, 0);
        clears(with(0, 5, 2000, 5), 2000, 5, 0);
        CallBook book = with(0, 5, 0, 5);
        for (int reference : new int[] {1, 2, 1999, 2000}) {
            book.band(reference, 0);
            clears(book, reference, 5, 0);
        }
        // At a price of 0, or of 2001, were there one, there would be no surplus.
        CallBook lowest = with(1, 5, 0, 5);
        lowest.place(0, false, 1, 3, 0, 0);
        clears(lowest, 1, 5, -3);
        CallBook highest = with(0, 5, 2000, 5);
        highest.place(0, true, 2000, 3, 0, 0);
        clears(highest, 2000, 5, 3);
    }

    private static void greatestVolume() {
        check.says("with the greatest volume");
        // Below 1500 5 move, with a surplus of 1; at 1500 6, with a surplus that is more, and farther off.
        CallBook book = with(0, 5, 0, 5);
        book.place(0, false, 1500, 9, 0, 0);
        book.place(0, true, 1500, 1, 0, 0);
        clears(book, 1500, 6, -8);
        book.cancel(3);
        clears(book, 1000, 5, 0);
    }

    private static void leastSurplus() {
        check.says("of these those with the least surplus, whatever its sign");
        // 3 too many are wanted up to 990; from 991 on one less, as many, or one more is offered too many.
        for (int more = 2; more <= 4; more++) {
            CallBook book = with(1100, 5, 900, 5);
            book.place(0, true, 990, 3, 0, 0);
            book.place(0, false, 991, more, 0, 0);
            book.band(500, 0);
            clears(book, more < 3 ? 991 : 900, 5, more < 3 ? -2 : 3);
            book.band(1500, 0);
            clears(book, more <= 3 ? 1100 : 990, 5, more <= 3 ? -more : 3);
        }
    }

    private static void nearestToTheReference() {
        check.says("of these the nearest to the reference");
        CallBook book = with(1010, 5, 990, 5);
        int[][] due = {
            {1, 990}, {989, 990}, {990, 990}, {991, 991}, {1009, 1009}, {1010, 1010}, {1011, 1010}, {2000, 1010}};
        for (int[] row : due) {
            book.band(row[0], 0);
            clears(book, row[1], 5, 0);
        }
        // As near as one another lie only prices with others between them that are nearer: see ClearingTest.
        check.says("of these the lowest");
        CallBook apart = with(1001, 5, 999, 5);
        clears(apart, 1000, 5, 0);
    }

    private static void noPrice() {
        check.says("With volume 0 there is no price.");
        clears(new CallBook(), -1, 0, 0);
        for (int price : new int[] {0, 1, 1000, 2000}) {
            CallBook buyers = new CallBook();
            buyers.place(0, true, price, 100000, 0, 0);
            clears(buyers, -1, 0, 0);
            CallBook sellers = new CallBook();
            sellers.place(0, false, price, 100000, 0, 0);
            clears(sellers, -1, 0, 0);
        }
        clears(with(1, 5, 2, 5), -1, 0, 0);
        clears(with(1999, 5, 2000, 5), -1, 0, 0);
        clears(with(2, 1, 2, 1), 2, 1, 0);
    }

    private static void fullBook() {
        check.says("the VOLUME is the lesser of both, the SURPLUS what is wanted less what is offered");
        CallBook book = new CallBook();
        for (int i = 0; i < 250; i++) {
            book.place(0, i != 249, 1000, 100000, 0, 0);
        }
        clears(book, 1000, 100000, 24800000);
        CallBook other = new CallBook();
        for (int i = 0; i < 250; i++) {
            other.place(0, i == 249, 1000, 100000, 0, 0);
        }
        clears(other, 1000, 100000, -24800000);
    }
}
