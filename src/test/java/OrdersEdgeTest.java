/** The edges that the terms ORDERS and PHASES name, a method for each sentence. */
final class OrdersEdgeTest {
    private static final Check check = new Check("OrdersEdgeTest");

    public static void main(String[] args) {
        numbers();
        owners();
        prices();
        shows();
        lives();
        overByCancel();
        overByTrades();
        overByLife();
        overByOpen();
        overByAmend();
        ranks();
        marketOrdersStandFirst();
        thenByPrice();
        thenByRank();
        atFirst();
        check.end();
    }

    private static void numbers() {
        check.says("ORDERS have numbers 0, 1, .., 250 at most");
        CallBook book = new CallBook();
        for (int i = 0; i < 250; i++) {
            check.due("the number of order " + i, book.place(0, i % 2 == 0, i + 1, 1, 0, 0), i);
            check.due("told(3)", book.told(3), i + 1);
        }
        check.due("order(249, 2)", book.order(249, 2), 250);
        check.state(book, "one more", () -> book.place(0, true, 1, 1, 0, 0));
        check.argument(book, "order(250, 2)", () -> book.order(250, 2));
        CallBook other = new CallBook();
        other.place(0, true, 1, 1, 0, 0);
        other.cancel(0);
        check.due("a number is not used again", other.place(0, true, 1, 1, 0, 0), 1);
    }

    private static void owners() {
        check.says("each an owner 0 .. 9");
        CallBook book = new CallBook();
        for (int owner = 0; owner <= 9; owner++) {
            int order = book.place(owner, true, 1, 1, 0, 0);
            check.due("order(" + order + ", 0)", book.order(order, 0), owner);
        }
        check.argument(book, "owner -1", () -> book.place(-1, true, 1, 1, 0, 0));
        check.argument(book, "owner 10", () -> book.place(10, true, 1, 1, 0, 0));
    }

    private static void prices() {
        check.says("a PRICE 1 .. 2000, or 0: a MARKET order");
        CallBook book = new CallBook();
        for (int price : new int[] {0, 1, 2, 1999, 2000}) {
            int buy = book.place(0, true, price, 1, 0, 0);
            int sell = book.place(0, false, price, 1, 0, 0);
            check.due("order(" + buy + ", 2)", book.order(buy, 2), price);
            check.due("order(" + sell + ", 2)", book.order(sell, 2), price);
        }
        for (int price : new int[] {-1, 2001}) {
            check.argument(book, "to buy at " + price, () -> book.place(0, true, price, 1, 0, 0));
            check.argument(book, "to sell at " + price, () -> book.place(0, false, price, 1, 0, 0));
        }
    }

    private static void shows() {
        check.says("what it SHOWS: all that is left, or (with a peak) at most the peak");
        for (CallBook book : new CallBook[] {new CallBook(), Books.going()}) {
            check.order(book, book.place(0, true, 9, 1, 0, 0), 1, 1, 0);
            check.order(book, book.place(0, true, 9, 100000, 0, 0), 100000, 100000, 1);
            check.order(book, book.place(0, true, 9, 6, 7, 0), 6, 6, 2);
            check.order(book, book.place(0, true, 9, 7, 7, 0), 7, 7, 3);
            check.order(book, book.place(0, true, 9, 8, 7, 0), 8, 7, 4);
            check.order(book, book.place(0, true, 9, 50, 1, 0), 50, 1, 5);
            check.order(book, book.place(0, true, 9, 100000, 99999, 0), 100000, 99999, 6);
            check.order(book, book.place(0, true, 9, 100000, 100000, 0), 100000, 100000, 7);
        }
    }

    private static void lives() {
        check.says("a LIFE, 0 GOOD, 1 NOW, 2 WHOLE");
        CallBook book = Books.going();
        for (int life = 0; life <= 2; life++) {
            int order = book.place(0, true, 1, 1, 0, life);
            check.due("order(" + order + ", 6)", book.order(order, 6), life);
        }
        check.argument(book, "life -1", () -> book.place(0, true, 1, 1, 0, -1));
        check.argument(book, "life 3", () -> book.place(0, true, 1, 1, 0, 3));
    }

    /** It is over: nothing is left or shown, there is no rank, it stands nowhere, and nothing ends it again. */
    private static void isOver(CallBook book, int order) {
        check.over(book, order);
        boolean buys = book.order(order, 1) == 1;
        for (int i = 0; i < book.told(buys ? 4 : 5); i++) {
            check.due("order " + order + " stands at place " + i, book.at(buys, i) == order, false);
        }
        check.state(book, "cancel(" + order + ")", () -> book.cancel(order));
    }

    private static final String OVER = "It RESTS, or it is over; then nothing of it is left.";

    private static void overByCancel() {
        check.says(OVER);
        CallBook book = new CallBook();
        book.place(0, true, 5, 9, 2, 0);
        book.place(1, true, 5, 9, 2, 0);
        book.place(1, true, 5, 9, 0, 0);
        book.cancel(0);
        isOver(book, 0);
        check.order(book, 1, 9, 2, 1);
        book.cancelAll(1);
        isOver(book, 1);
        isOver(book, 2);
    }

    private static void overByTrades() {
        check.says("an order of which nothing is left is over");
        CallBook book = Books.going();
        book.place(0, false, 5, 9, 3, 0);
        book.place(0, true, 5, 8, 0, 0);
        isOver(book, 1);
        check.order(book, 0, 1, 1, 2);
        book.place(0, true, 5, 1, 0, 0);
        isOver(book, 0);
        isOver(book, 2);
    }

    private static void overByLife() {
        check.says(OVER);
        CallBook book = Books.going();
        book.place(0, false, 5, 3, 0, 0);
        isOver(book, book.place(0, true, 5, 4, 0, 2));
        isOver(book, book.place(0, true, 4, 4, 0, 1));
        isOver(book, book.place(0, true, 5, 4, 0, 1));
        isOver(book, book.place(0, true, 0, 4, 0, 0));
        isOver(book, 0);
    }

    private static void overByOpen() {
        check.says(OVER);
        CallBook book = new CallBook();
        book.place(0, false, 0, 3, 2, 0);
        book.place(0, true, 5, 1, 0, 0);
        book.place(0, true, 5, 1, 0, 0);
        book.open();
        isOver(book, 0);
        isOver(book, 1);
        isOver(book, 2);
    }

    private static void overByAmend() {
        check.says(OVER);
        CallBook book = Books.going();
        book.place(0, false, 5, 3, 0, 0);
        book.place(0, true, 4, 9, 2, 0);
        check.due("amend(1, 5, 3)", book.amend(1, 5, 3), false);
        isOver(book, 0);
        isOver(book, 1);
        book.place(0, true, 4, 9, 2, 0);
        check.due("amend(2, 0, 3)", book.amend(2, 0, 3), false);
        isOver(book, 2);
    }

    private static void ranks() {
        check.says("Ranks are 0, 1, ..: an order gets the next one when it comes to rest");
        CallBook book = Books.going();
        check.order(book, book.place(0, true, 5, 1, 0, 0), 1, 1, 0);
        book.place(0, true, 5, 1, 0, 1);
        book.place(0, true, 5, 1, 0, 2);
        book.place(0, true, 0, 1, 0, 0);
        check.order(book, book.place(0, true, 5, 3, 0, 0), 3, 3, 1);
        book.place(0, false, 5, 2, 0, 0);
        check.order(book, 4, 2, 2, 1);
        check.order(book, book.place(0, false, 6, 1, 0, 0), 1, 1, 2);
        book.cancelAll(0);
        check.order(book, book.place(0, false, 6, 1, 0, 0), 1, 1, 3);
    }

    private static void marketOrdersStandFirst() {
        check.says("A side's orders stand market orders first");
        CallBook book = new CallBook();
        book.place(0, true, 2000, 1, 0, 0);
        book.place(0, true, 1, 1, 0, 0);
        book.place(0, true, 0, 1, 0, 0);
        book.place(0, false, 2000, 1, 0, 0);
        book.place(0, false, 1, 1, 0, 0);
        book.place(0, false, 0, 1, 0, 0);
        check.line(book, true, 2, 0, 1);
        check.line(book, false, 5, 4, 3);
    }

    private static void thenByPrice() {
        check.says("then by price, the highest one to buy and the lowest one to sell first");
        CallBook book = new CallBook();
        int[] prices = {1000, 1, 2000, 999, 1001, 1999, 2};
        for (int price : prices) {
            book.place(0, true, price, 1, 0, 0);
        }
        for (int price : prices) {
            book.place(0, false, price, 1, 0, 0);
        }
        check.line(book, true, 2, 5, 4, 0, 3, 6, 1);
        check.line(book, false, 8, 13, 10, 7, 11, 12, 9);
    }

    private static void thenByRank() {
        check.says("then by rank");
        CallBook book = new CallBook();
        for (int i = 0; i < 3; i++) {
            book.place(0, true, 0, 5, 0, 0);
            book.place(0, true, 7, 5, 0, 0);
        }
        check.line(book, true, 0, 2, 4, 1, 3, 5);
        book.amend(0, 0, 6);
        book.amend(1, 7, 6);
        check.line(book, true, 2, 4, 0, 3, 5, 1);
        check.order(book, 0, 6, 6, 6);
        check.order(book, 1, 6, 6, 7);
    }

    private static void atFirst() {
        check.says("PHASES: 0 CALL (at first), 1 GOING ON, 2 STOPPED.");
        int[] phases = {0, 1, 2, 0};
        CallBook[] books = Books.inEachPhase();
        for (int i = 0; i < phases.length; i++) {
            check.due("told(0)", books[i].told(0), phases[i]);
        }
        check.says("There is a REFERENCE price, at first 1000, and a BAND, at first 0: none.");
        CallBook book = new CallBook();
        check.due("told(1)", book.told(1), 1000);
        check.due("told(2)", book.told(2), 0);
        book.open();
        book.place(0, false, 2000, 1, 0, 0);
        book.place(0, true, 2000, 1, 0, 0);
        check.due("nothing is out of it", book.told(6), 1);
    }
}
