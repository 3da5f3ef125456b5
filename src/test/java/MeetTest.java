/** Promise 2 with the terms: how an order that comes while it is GOING ON meets others. */
final class MeetTest {
    private static final Check check = new Check("MeetTest");

    public static void main(String[] args) {
        tradesAtTheRestingPrice(true);
        tradesAtTheRestingPrice(false);
        pricesThatItTakes();
        marketOrders();
        peaksShowAnew();
        nowAndGood();
        whole();
        wholeCountsWhatIsHidden();
        wholeAndTheBand();
        bandStops(true);
        bandStops(false);
        bandOnItsEdge();
        stoppedByLife();
        stoppedAfterSomeTrades();
        ownOrdersMeetToo();
        check.end();
    }

    private static CallBook going() {
        CallBook book = new CallBook();
        book.open();
        return book;
    }

    private static void tradesAtTheRestingPrice(boolean buys) {
        CallBook book = going();
        int better = buys ? 990 : 1010;
        book.place(0, !buys, 1000, 5, 0, 0);
        book.place(1, !buys, better, 5, 0, 0);
        book.place(2, !buys, 1000, 5, 0, 0);
        book.place(3, buys, 1000, 12, 0, 0);
        check.due("told(6)", book.told(6), 3);
        check.trade(book, 0, buys ? 3 : 1, buys ? 1 : 3, better, 5);
        check.trade(book, 1, buys ? 3 : 0, buys ? 0 : 3, 1000, 5);
        check.trade(book, 2, buys ? 3 : 2, buys ? 2 : 3, 1000, 2);
        check.over(book, 0);
        check.over(book, 1);
        check.order(book, 2, 3, 3, 2);
        check.over(book, 3);
        check.due("order(3, 7)", book.order(3, 7), 12);
        check.due("order(2, 7)", book.order(2, 7), 2);
        check.due("rank of the next", book.order(book.place(4, !buys, 1000, 1, 0, 0), 5), 3);
    }

    private static void pricesThatItTakes() {
        CallBook book = going();
        book.place(0, false, 1000, 5, 0, 0);
        book.place(0, true, 999, 5, 0, 0);
        check.due("buys below", book.told(6), 0);
        book.place(0, true, 1000, 1, 0, 0);
        check.due("buys at the price", book.told(6), 1);
        book.place(0, true, 2000, 1, 0, 0);
        check.trade(book, 1, 3, 0, 1000, 1);
        book.place(0, false, 999, 1, 0, 0);
        check.trade(book, 2, 1, 4, 999, 1);
        book.place(0, false, 1, 1, 0, 0);
        check.trade(book, 3, 1, 5, 999, 1);
        book.place(0, true, 1000, 10, 0, 0);
        check.trade(book, 4, 6, 0, 1000, 3);
        check.order(book, 6, 7, 7, 2);
        check.line(book, true, 6, 1);
        check.line(book, false);
    }

    private static void marketOrders() {
        CallBook book = going();
        book.place(0, true, 0, 5, 0, 0);
        check.over(book, 0);
        book.place(0, false, 3, 2, 0, 0);
        book.place(0, false, 2000, 2, 0, 0);
        book.place(0, true, 0, 5, 0, 0);
        check.trade(book, 0, 3, 1, 3, 2);
        check.trade(book, 1, 3, 2, 2000, 2);
        check.over(book, 3);
        check.due("traded", book.order(3, 7), 4);
        book.place(0, true, 1, 2, 0, 0);
        book.place(0, false, 0, 1, 0, 0);
        check.trade(book, 2, 4, 5, 1, 1);
        check.order(book, 4, 1, 1, 2);
        check.due("told(0)", book.told(0), 1);
    }

    private static void peaksShowAnew() {
        CallBook book = going();
        book.place(0, false, 1000, 10, 4, 0);
        book.place(1, false, 1000, 3, 0, 0);
        book.place(2, true, 1000, 2, 0, 0);
        check.order(book, 0, 8, 2, 0);
        book.place(2, true, 1000, 2, 0, 0);
        check.order(book, 0, 6, 4, 2);
        check.line(book, false, 1, 0);
        book.place(2, true, 1000, 8, 0, 0);
        check.trade(book, 2, 4, 1, 1000, 3);
        check.trade(book, 3, 4, 0, 1000, 4);
        check.trade(book, 4, 4, 0, 1000, 1);
        check.order(book, 0, 1, 1, 3);
        check.due("depth shown", book.depth(false, 1000, false), 1);
        book.place(2, true, 1000, 9, 3, 0);
        check.over(book, 0);
        check.order(book, 5, 8, 3, 4);
    }

    private static void nowAndGood() {
        CallBook book = going();
        book.place(0, false, 1000, 5, 0, 0);
        book.place(1, true, 1000, 7, 0, 1);
        check.over(book, 1);
        check.due("traded", book.order(1, 7), 5);
        book.place(1, true, 1000, 7, 0, 1);
        check.over(book, 2);
        check.due("traded", book.order(2, 7), 0);
        check.due("told(4)", book.told(4), 0);
        book.place(1, true, 1000, 7, 0, 0);
        check.order(book, 3, 7, 7, 1);
    }

    private static void whole() {
        CallBook book = going();
        book.place(0, false, 1000, 5, 0, 0);
        book.place(0, false, 1001, 5, 0, 0);
        book.place(1, true, 1000, 6, 0, 2);
        check.over(book, 2);
        check.due("told(6)", book.told(6), 0);
        book.place(1, true, 1001, 10, 0, 2);
        check.over(book, 3);
        check.due("traded", book.order(3, 7), 10);
        check.line(book, false);
        book.place(1, true, 0, 1, 0, 2);
        check.over(book, 4);
        book.place(0, true, 1000, 5, 0, 0);
        book.place(0, true, 999, 5, 0, 0);
        book.place(1, false, 1000, 6, 0, 2);
        book.place(1, false, 0, 11, 0, 2);
        check.due("told(6)", book.told(6), 2);
        book.place(1, false, 0, 10, 0, 2);
        check.due("told(6)", book.told(6), 4);
    }

    private static void wholeCountsWhatIsHidden() {
        CallBook book = going();
        book.place(0, false, 1000, 10, 1, 0);
        book.place(1, true, 1000, 11, 0, 2);
        check.due("told(6)", book.told(6), 0);
        book.place(1, true, 1000, 10, 0, 2);
        check.due("told(6)", book.told(6), 10);
        check.over(book, 0);
    }

    private static void wholeAndTheBand() {
        CallBook book = going();
        book.place(0, false, 1005, 5, 0, 0);
        book.place(0, false, 1006, 5, 0, 0);
        book.band(1000, 5);
        book.place(1, true, 1006, 6, 0, 2);
        check.over(book, 2);
        check.due("a WHOLE one that is over does not stop", book.told(0), 1);
        check.due("told(6)", book.told(6), 0);
        book.place(1, true, 1006, 5, 0, 2);
        check.due("told(6)", book.told(6), 1);
        check.due("told(0)", book.told(0), 1);
    }

    private static void bandStops(boolean buys) {
        CallBook book = going();
        int far = buys ? 1011 : 989;
        book.place(0, !buys, far, 5, 0, 0);
        book.band(1000, 10);
        book.place(1, buys, far, 3, 2, 0);
        check.due("told(0)", book.told(0), 2);
        check.due("told(6)", book.told(6), 0);
        check.order(book, 0, 5, 5, 0);
        check.order(book, 1, 3, 2, 1);
        check.due("clearing(1)", book.clearing(1), 3);
        check.due("astray()", book.astray(), 0);
    }

    private static void bandOnItsEdge() {
        CallBook book = going();
        book.band(1000, 10);
        book.place(0, false, 1010, 1, 0, 0);
        book.place(1, true, 1010, 1, 0, 0);
        check.due("told(6)", book.told(6), 1);
        book.place(0, true, 990, 1, 0, 0);
        book.place(1, false, 990, 1, 0, 0);
        check.due("told(6)", book.told(6), 2);
        book.place(0, false, 1011, 1, 0, 0);
        book.place(1, true, 1010, 1, 0, 0);
        check.due("one that is not taken does not stop", book.told(0), 1);
        book.band(1000, 0);
        book.place(1, true, 2000, 1, 0, 0);
        check.due("no band", book.told(6), 3);
        check.due("told(0)", book.told(0), 1);
    }

    private static void stoppedByLife() {
        for (int life = 0; life < 2; life++) {
            for (int price = 0; price <= 1500; price += 1500) {
                CallBook book = going();
                book.band(1000, 10);
                book.place(0, false, 1500, 1, 0, 0);
                book.place(1, true, price, 4, 0, life);
                check.due("told(0)", book.told(0), 2);
                if (life == 0) {
                    check.order(book, 1, 4, 4, 1);
                    check.line(book, true, 1);
                } else {
                    check.over(book, 1);
                    check.line(book, true);
                }
            }
        }
    }

    private static void stoppedAfterSomeTrades() {
        CallBook book = going();
        book.band(1000, 5);
        book.place(0, false, 1004, 5, 2, 0);
        book.place(0, false, 1010, 5, 0, 0);
        book.place(1, true, 0, 7, 0, 0);
        check.due("told(6)", book.told(6), 3);
        check.trade(book, 2, 2, 0, 1004, 1);
        check.due("told(0)", book.told(0), 2);
        check.order(book, 2, 2, 2, 4);
        check.due("traded", book.order(2, 7), 5);
    }

    private static void ownOrdersMeetToo() {
        CallBook book = going();
        book.place(0, false, 1000, 5, 0, 0);
        book.place(0, true, 1000, 5, 0, 0);
        check.trade(book, 0, 1, 0, 1000, 5);
    }
}
