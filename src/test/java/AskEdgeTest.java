/** The edges that promises 9 to 15, the questions, name, a method for each sentence. */
final class AskEdgeTest {
    private static final int MOST = Integer.MAX_VALUE;
    private static final int LEAST = Integer.MIN_VALUE;
    private static final Check check = new Check("AskEdgeTest");

    public static void main(String[] args) {
        clearing();
        clearingWithoutAPrice();
        orderOfNone();
        orderWhat();
        rankOfOneThatIsOver();
        at();
        depthPrices();
        depthOfAFullBook();
        shownAndLeft();
        tradeOfNone();
        tradeWhat();
        told();
        astray();
        questionsChangeNothing();
        check.end();
    }

    private static void clearing() {
        check.says("What clearing would do now: THE PRICE (what = 0), the volume (1), the surplus at that price (2)");
        for (CallBook book : new CallBook[] {new CallBook(), traded(), Books.stopped(), Books.full()}) {
            for (int what : new int[] {-1, 3, LEAST, MOST}) {
                check.argument(book, "clearing(" + what + ")", () -> book.clearing(what));
            }
        }
        CallBook book = new CallBook();
        book.place(0, true, 5, 1, 0, 0);
        book.place(0, false, 5, 3, 0, 0);
        check.due("clearing(0)", book.clearing(0), 5);
        check.due("clearing(1)", book.clearing(1), 1);
        check.due("clearing(2)", book.clearing(2), -2);
    }

    private static void clearingWithoutAPrice() {
        check.says("NONE without one .. 0 without one");
        CallBook book = new CallBook();
        CallBook seller = new CallBook();
        seller.place(0, false, 5, 7, 0, 0);
        for (CallBook none : new CallBook[] {book, seller, Books.full(), Books.going()}) {
            check.due("clearing(0)", none.clearing(0), CallBook.NONE);
            check.due("clearing(1)", none.clearing(1), 0);
            check.due("clearing(2)", none.clearing(2), 0);
        }
        seller.place(0, true, 5, 1, 0, 0);
        check.due("clearing(2) with one", seller.clearing(2), -6);
        seller.cancel(1);
        check.due("clearing(0) without it again", seller.clearing(0), CallBook.NONE);
        check.due("clearing(1) without it again", seller.clearing(1), 0);
        check.due("clearing(2) without it again", seller.clearing(2), 0);
    }

    private static void orderOfNone() {
        check.says("order: IllegalArgument: there is no such order");
        for (CallBook book : new CallBook[] {new CallBook(), Books.stopped(), Books.full()}) {
            int orders = (int) book.told(3);
            for (int order : new int[] {-1, orders, LEAST, MOST}) {
                check.argument(book, "order(" + order + ", 0) of " + orders, () -> book.order(order, 0));
                check.argument(book, "order(" + order + ", 9) of " + orders, () -> book.order(order, 9));
            }
        }
        check.due("order(0, 0)", Books.full().order(0, 0), 0);
        check.due("order(249, 0)", Books.full().order(249, 0), 9);
    }

    private static void orderWhat() {
        check.says("Of an order: owner (what = 0) .. peak (8)");
        CallBook book = new CallBook();
        book.place(9, false, 2000, 100000, 2000, 0);
        int[] due = {9, 0, 2000, 100000, 2000, 0, 0, 0, 2000};
        for (int what = 0; what <= 8; what++) {
            check.due("order(0, " + what + ")", book.order(0, what), due[what]);
        }
        book.place(0, true, 1, 1, 1, 0);
        int[] least = {0, 1, 1, 1, 1, 1, 0, 0, 1};
        for (int what = 0; what <= 8; what++) {
            check.due("order(1, " + what + ")", book.order(1, what), least[what]);
        }
        for (int what : new int[] {-1, 9, LEAST, MOST}) {
            check.argument(book, "order(0, " + what + ")", () -> book.order(0, what));
        }
    }

    private static void rankOfOneThatIsOver() {
        check.says("rank (5; NONE when it is over)");
        CallBook book = new CallBook();
        book.place(0, true, 5, 1, 0, 0);
        check.due("the first rank", book.order(0, 5), 0);
        book.cancel(0);
        check.due("when it is over", book.order(0, 5), CallBook.NONE);
        book.open();
        check.due("one that never rested", book.order(book.place(0, true, 5, 1, 0, 1), 5), CallBook.NONE);
    }

    private static void at() {
        check.says("The order that stands at place i of a side; NONE.");
        CallBook empty = new CallBook();
        CallBook full = Books.full();
        for (int i : new int[] {-1, 0, LEAST, MOST}) {
            check.due("at(true, " + i + ") of none", empty.at(true, i), -1);
            check.due("at(false, " + i + ") of none", empty.at(false, i), -1);
            check.due("at(false, " + i + ") of the empty side", full.at(false, i), -1);
        }
        check.due("at(true, -1)", full.at(true, -1), -1);
        check.due("at(true, 0)", full.at(true, 0), 0);
        check.due("at(true, 249)", full.at(true, 249), 249);
        check.due("at(true, 250)", full.at(true, 250), -1);
        full.cancel(0);
        check.due("at(true, 0) after a cancel", full.at(true, 0), 1);
        check.due("at(true, 248) after a cancel", full.at(true, 248), 249);
        check.due("at(true, 249) after a cancel", full.at(true, 249), -1);
        for (int i : new int[] {LEAST, MOST}) {
            check.due("at(true, " + i + ")", full.at(true, i), -1);
        }
    }

    private static void depthPrices() {
        check.says("depth: IllegalArgument: a price that is not 0 .. 2000");
        CallBook book = new CallBook();
        int[] prices = {0, 1, 2, 1999, 2000};
        for (int i = 0; i < prices.length; i++) {
            book.place(0, true, prices[i], 10 + i, 2 + i, 0);
            book.place(0, false, prices[i], 20 + i, 3 + i, 0);
        }
        for (int i = 0; i < prices.length; i++) {
            check.due("to buy, shown", book.depth(true, prices[i], false), 2 + i);
            check.due("to buy, left", book.depth(true, prices[i], true), 10 + i);
            check.due("to sell, shown", book.depth(false, prices[i], false), 3 + i);
            check.due("to sell, left", book.depth(false, prices[i], true), 20 + i);
        }
        for (int price : new int[] {-1, 2001, LEAST, MOST}) {
            for (int i = 0; i < 4; i++) {
                boolean buys = i % 2 == 0;
                boolean left = i < 2;
                String call = "depth(" + buys + ", " + price + ", " + left + ")";
                check.argument(book, call, () -> book.depth(buys, price, left));
            }
        }
    }

    private static void depthOfAFullBook() {
        check.says("What all orders of a side at a price show together, or (on left) what is left of them.");
        CallBook empty = new CallBook();
        check.due("of none, shown", empty.depth(true, 5, false), 0);
        check.due("of none, left", empty.depth(false, 0, true), 0);
        CallBook book = new CallBook();
        for (int i = 0; i < 250; i++) {
            book.place(0, false, 2000, 100000, 2000, 0);
        }
        check.due("shown", book.depth(false, 2000, false), 500000);
        check.due("left", book.depth(false, 2000, true), 25000000);
        check.due("the other side", book.depth(true, 2000, true), 0);
        check.due("the next price", book.depth(false, 1999, true), 0);
    }

    private static void shownAndLeft() {
        check.says("What all orders .. show together, or (on left) what is left");
        CallBook book = Books.going();
        book.place(0, false, 5, 10, 4, 0);
        book.place(0, false, 5, 1, 0, 0);
        book.place(0, true, 5, 3, 0, 0);
        check.due("shown", book.depth(false, 5, false), 2);
        check.due("left", book.depth(false, 5, true), 8);
        book.cancelAll(0);
        check.due("those that are over, shown", book.depth(false, 5, false), 0);
        check.due("those that are over, left", book.depth(false, 5, true), 0);
    }

    private static void tradeOfNone() {
        check.says("NONE when there is none such");
        CallBook none = new CallBook();
        check.trade(none, 0, -1, -1, -1, -1);
        CallBook book = traded();
        check.trade(book, 0, 1, 0, 5, 1);
        check.trade(book, 1, 2, 0, 5, 2);
        for (int i : new int[] {-1, 2, LEAST, MOST}) {
            check.trade(book, i, -1, -1, -1, -1);
        }
    }

    private static CallBook traded() {
        CallBook book = Books.going();
        book.place(0, false, 5, 10, 0, 0);
        book.place(0, true, 5, 1, 0, 0);
        book.place(0, true, 5, 2, 0, 0);
        return book;
    }

    private static void tradeWhat() {
        check.says("or what is none of these");
        CallBook book = traded();
        for (int what : new int[] {-1, 4, LEAST, MOST}) {
            check.due("trade(0, " + what + ")", book.trade(0, what), -1);
            check.due("trade(2, " + what + ")", book.trade(2, what), -1);
        }
    }

    private static void told() {
        check.says("NONE for another what.");
        for (CallBook book : new CallBook[] {new CallBook(), traded(), Books.stopped(), Books.full()}) {
            for (int what : new int[] {-1, 8, LEAST, MOST}) {
                check.due("told(" + what + ")", book.told(what), -1);
            }
        }
        long[][] due = {
            {0, 1000, 0, 0, 0, 0, 0, 0},
            {1, 1000, 0, 3, 0, 1, 2, 3},
            {2, 1000, 1, 2, 0, 1, 0, 0},
            {0, 1000, 0, 250, 250, 0, 0, 0}};
        CallBook[] books = {new CallBook(), traded(), Books.stopped(), Books.full()};
        for (int i = 0; i < books.length; i++) {
            for (int what = 0; what <= 7; what++) {
                check.due("book " + i + ", told(" + what + ")", books[i].told(what), due[i][what]);
            }
        }
    }

    private static void astray() {
        check.says("For how many orders what is shown, left or their place is wrong");
        CallBook edges = new CallBook();
        for (int price : new int[] {0, 1, 2000}) {
            edges.place(0, true, price, 1, 0, 0);
            edges.place(0, true, price, 100000, 0, 0);
            edges.place(0, false, price, 100000, 2000, 0);
            edges.place(0, false, price, 1, 100000, 0);
        }
        check.due("the least and the most of all", edges.astray(), 0);
        check.says("or the book could trade while it is GOING ON without a band");
        CallBook crossed = new CallBook();
        crossed.place(0, true, 5, 1, 0, 0);
        crossed.place(0, false, 5, 1, 0, 0);
        check.due("in CALL it may stand crossed", crossed.astray(), 0);
        CallBook stopped = Books.going();
        stopped.band(1000, 1);
        stopped.place(0, false, 5, 1, 0, 0);
        stopped.place(0, true, 0, 1, 0, 0);
        check.due("STOPPED it may stand crossed", stopped.astray(), 0);
        stopped.open();
        for (CallBook book : new CallBook[] {new CallBook(), traded(), stopped, Books.full()}) {
            check.due("astray()", book.astray(), 0);
        }
    }

    private static void questionsChangeNothing() {
        check.says("Nothing is promised beyond the answers and state changes described above");
        for (CallBook book : new CallBook[] {new CallBook(), traded(), Books.stopped(), Books.full()}) {
            String before = Check.picture(book);
            Check.picture(book);
            check.due("the same answers again", Check.picture(book).equals(before), true);
        }
    }
}
