/** Books in the states at which the edges lie. */
final class Books {
    private Books() {
    }

    /** GOING ON, without orders. */
    static CallBook going() {
        CallBook book = new CallBook();
        book.open();
        return book;
    }

    /** STOPPED: order 0 sells 1 at 1500 and rests, order 1 was to go NOW and is over; the band is 1. */
    static CallBook stopped() {
        CallBook book = going();
        book.band(1000, 1);
        book.place(1, false, 1500, 1, 0, 0);
        book.place(2, true, 1500, 1, 0, 1);
        return book;
    }

    /** CALL, with 250 orders of 1 to buy at 7, of the owners 0 to 9 in turn. */
    static CallBook full() {
        CallBook book = new CallBook();
        for (int i = 0; i < 250; i++) {
            book.place(i % 10, true, 7, 1, 0, 0);
        }
        return book;
    }

    /** One book in each phase: CALL at first, GOING ON, STOPPED, CALL again. */
    static CallBook[] inEachPhase() {
        CallBook again = going();
        again.call();
        return new CallBook[] {new CallBook(), going(), stopped(), again};
    }
}
