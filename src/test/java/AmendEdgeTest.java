/** The edges that promise 5 names, a method for each sentence. */
final class AmendEdgeTest {
    private static final int MOST = Integer.MAX_VALUE;
    private static final int LEAST = Integer.MIN_VALUE;
    private static final Check check = new Check("AmendEdgeTest");

    public static void main(String[] args) {
        noSuchOrder();
        prices();
        quantities();
        samePriceAndNotMore();
        anotherPrice();
        showsNoMoreThanIsLeft();
        whetherItRests();
        withANewRank();
        meetsOthersFirst();
        fiftyPeaks();
        itIsOver();
        stopped();
        both();
        check.end();
    }

    /** CALL; order 0 has 10 to buy at 1000, rank 0; order 1 stands behind it at that price. */
    private static CallBook two() {
        CallBook book = new CallBook();
        book.place(0, true, 1000, 10, 0, 0);
        book.place(1, true, 1000, 10, 0, 0);
        return book;
    }

    private static void noSuchOrder() {
        check.says("amend: IllegalArgument: there is no such order");
        for (CallBook book : new CallBook[] {new CallBook(), two(), Books.stopped(), Books.full()}) {
            int orders = (int) book.told(3);
            for (int order : new int[] {-1, orders, LEAST, MOST}) {
                check.argument(book, "amend(" + order + ", 7, 1) of " + orders, () -> book.amend(order, 7, 1));
            }
        }
        check.due("amend(249, 7, 2) of a full book", Books.full().amend(249, 7, 2), true);
    }

    private static void prices() {
        check.says("Another price (0 .. 2000)");
        CallBook book = two();
        for (int price : new int[] {0, 1, 2000}) {
            check.due("amend(0, " + price + ", 10)", book.amend(0, price, 10), true);
            check.due("order(0, 2)", book.order(0, 2), price);
        }
        for (int price : new int[] {-1, 2001, LEAST, MOST}) {
            check.argument(book, "amend(0, " + price + ", 10)", () -> book.amend(0, price, 10));
        }
    }

    private static void quantities() {
        check.says("another quantity left (1 .. 100000)");
        CallBook book = two();
        for (int quantity : new int[] {1, 100000}) {
            check.due("amend(0, 1000, " + quantity + ")", book.amend(0, 1000, quantity), true);
            check.due("order(0, 3)", book.order(0, 3), quantity);
        }
        for (int quantity : new int[] {0, 100001, -1, LEAST, MOST}) {
            check.argument(book, "amend(0, 1000, " + quantity + ")", () -> book.amend(0, 1000, quantity));
            check.argument(book, "amend(0, 999, " + quantity + ")", () -> book.amend(0, 999, quantity));
        }
    }

    private static void samePriceAndNotMore() {
        check.says("With the same price and not more left it keeps its rank");
        for (int quantity : new int[] {1, 9, 10, 11, 100000}) {
            CallBook book = two();
            boolean keeps = quantity <= 10;
            check.due("amend(0, 1000, " + quantity + ")", book.amend(0, 1000, quantity), true);
            check.order(book, 0, quantity, quantity, keeps ? 0 : 2);
            check.line(book, true, keeps ? new int[] {0, 1} : new int[] {1, 0});
            check.due("the next rank", book.order(book.place(0, true, 1, 1, 0, 0), 5), keeps ? 2 : 3);
        }
        CallBook traded = Books.going();
        traded.place(0, true, 1000, 10, 0, 0);
        traded.place(0, true, 1000, 10, 0, 0);
        traded.place(0, false, 1000, 4, 0, 0);
        check.due("not more than is left, 6", traded.amend(0, 1000, 6), true);
        check.order(traded, 0, 6, 6, 0);
        check.due("more than that, but not than at first", traded.amend(0, 1000, 7), true);
        check.order(traded, 0, 7, 7, 2);
    }

    private static void anotherPrice() {
        check.says("else it leaves the book, and comes again as a new one would, with a new rank");
        for (int price : new int[] {999, 1001}) {
            for (int quantity : new int[] {1, 10, 11}) {
                CallBook book = two();
                check.due("amend(0, " + price + ", " + quantity + ")", book.amend(0, price, quantity), true);
                check.order(book, 0, quantity, quantity, 2);
                check.line(book, true, price > 1000 ? new int[] {0, 1} : new int[] {1, 0});
            }
        }
        CallBook book = two();
        book.amend(0, 0, 10);
        book.amend(1, 0, 10);
        check.line(book, true, 0, 1);
        check.due("the same, of market orders", book.amend(0, 0, 10), true);
        check.order(book, 0, 10, 10, 2);
        check.due("more, of market orders", book.amend(0, 0, 11), true);
        check.order(book, 0, 11, 11, 4);
        check.line(book, true, 1, 0);
    }

    private static void showsNoMoreThanIsLeft() {
        check.says("and shows no more than is left");
        int[][] due = {{8, 4}, {7, 4}, {5, 4}, {4, 4}, {3, 3}, {1, 1}};
        for (int[] row : due) {
            CallBook book = Books.going();
            book.place(0, false, 5, 10, 6, 0);
            book.place(0, true, 5, 2, 0, 0);
            check.order(book, 0, 8, 4, 0);
            check.due("amend(0, 5, " + row[0] + ")", book.amend(0, 5, row[0]), true);
            check.order(book, 0, row[0], row[1], 0);
        }
        CallBook book = Books.going();
        book.place(0, false, 5, 10, 6, 0);
        book.place(0, true, 5, 2, 0, 0);
        book.amend(0, 5, 9);
        check.order(book, 0, 9, 6, 1);
    }

    private static void whetherItRests() {
        check.says("whether it rests");
        // To buy 3 when 3 are offered at 5: all of it goes, or 1 is left.
        for (int quantity = 3; quantity <= 4; quantity++) {
            CallBook book = Books.going();
            book.place(0, true, 4, 3, 0, 0);
            book.place(0, false, 5, 3, 0, 0);
            check.due("amend(0, 5, " + quantity + ")", book.amend(0, 5, quantity), quantity == 4);
            check.due("traded", book.order(0, 7), 3);
            check.due("told(4)", book.told(4), quantity - 3);
        }
        CallBook market = Books.going();
        market.place(0, true, 4, 3, 0, 0);
        check.due("a market order that meets none", market.amend(0, 0, 3), false);
        CallBook call = two();
        check.due("a market order in CALL", call.amend(0, 0, 3), true);
    }

    private static void withANewRank() {
        check.says("comes again as a new one would, with a new rank");
        CallBook book = Books.going();
        book.place(0, true, 4, 3, 0, 0);
        book.place(0, false, 5, 3, 0, 0);
        check.due("amend(0, 5, 3)", book.amend(0, 5, 3), false);
        check.due("one that does not rest gets none", book.order(book.place(0, true, 4, 3, 0, 0), 5), 2);
        CallBook peak = new CallBook();
        peak.place(0, true, 4, 30, 7, 0);
        check.due("amend(0, 5, 6)", peak.amend(0, 5, 6), true);
        check.order(peak, 0, 6, 6, 1);
        check.due("amend(0, 5, 7)", peak.amend(0, 5, 7), true);
        check.order(peak, 0, 7, 7, 2);
        check.due("amend(0, 5, 8)", peak.amend(0, 5, 8), true);
        check.order(peak, 0, 8, 7, 3);
    }

    private static void meetsOthersFirst() {
        check.says("(GOING ON: it meets others first)");
        CallBook call = new CallBook();
        call.place(0, true, 4, 3, 0, 0);
        call.place(0, false, 5, 3, 0, 0);
        check.due("amend(0, 5, 3) in CALL", call.amend(0, 5, 3), true);
        check.due("told(6)", call.told(6), 0);
        for (int price = 4; price <= 6; price++) {
            CallBook book = Books.going();
            book.place(0, true, 3, 3, 0, 0);
            book.place(0, false, 5, 3, 0, 0);
            check.due("amend(0, " + price + ", 3)", book.amend(0, price, 3), price < 5);
            check.due("told(6)", book.told(6), price < 5 ? 0 : 1);
        }
        for (int far = 1010; far <= 1011; far++) {
            CallBook book = Books.going();
            book.band(1000, 10);
            book.place(0, true, 3, 3, 0, 0);
            book.place(0, false, far, 3, 0, 0);
            check.due("amend(0, 0, 3) at the band", book.amend(0, 0, 3), far == 1011);
            check.due("told(0)", book.told(0), far == 1011 ? 2 : 1);
        }
    }

    private static void fiftyPeaks() {
        check.says("IllegalArgument: also if it has a peak, and the quantity is more than 50 times that");
        int[][] rows = {{1, 50}, {2, 100}, {1999, 99950}};
        for (int[] row : rows) {
            CallBook book = new CallBook();
            book.place(0, true, 1000, 1, row[0], 0);
            check.due("50 times " + row[0], book.amend(0, 1000, row[1]), true);
            check.argument(book, "one more", () -> book.amend(0, 1000, row[1] + 1));
            check.argument(book, "one more at another price", () -> book.amend(0, 999, row[1] + 1));
        }
        CallBook book = new CallBook();
        book.place(0, true, 1000, 1, 2000, 0);
        book.place(0, true, 1000, 1, 0, 0);
        check.due("100000 with a peak of 2000", book.amend(0, 1000, 100000), true);
        check.due("without a peak", book.amend(1, 1000, 100000), true);
    }

    private static void itIsOver() {
        check.says("amend: IllegalState: it is over");
        CallBook book = Books.going();
        book.place(0, false, 9, 1, 0, 0);
        book.place(0, true, 9, 1, 0, 0);
        book.place(0, true, 9, 1, 0, 1);
        book.place(0, true, 9, 1, 0, 2);
        book.place(0, true, 0, 1, 0, 0);
        book.place(0, true, 9, 1, 0, 0);
        book.cancel(5);
        for (int order = 0; order <= 5; order++) {
            int which = order;
            check.state(book, "amend(" + order + ", 9, 1)", () -> book.amend(which, 9, 1));
        }
    }

    private static void stopped() {
        check.says("amend: IllegalState: .. or STOPPED");
        CallBook book = Books.stopped();
        check.state(book, "the same", () -> book.amend(0, 1500, 1));
        check.state(book, "more", () -> book.amend(0, 1500, 2));
        check.state(book, "another price", () -> book.amend(0, 1501, 1));
        check.state(book, "one that is over", () -> book.amend(1, 1500, 1));
        book.call();
        check.due("in CALL again", book.amend(0, 1500, 1), true);
    }

    private static void both() {
        check.says("where both fit, IllegalArgument");
        CallBook book = Books.going();
        book.place(0, true, 1000, 1, 1, 0);
        book.place(0, true, 1000, 1, 1, 0);
        book.cancel(0);
        bothFit(book, 0);
        book.band(1, 1);
        book.place(0, false, 1000, 1, 0, 1);
        check.due("told(0)", book.told(0), 2);
        bothFit(book, 0);
        bothFit(book, 1);
    }

    private static void bothFit(CallBook book, int order) {
        check.argument(book, "price", () -> book.amend(order, 2001, 1));
        check.argument(book, "quantity", () -> book.amend(order, 1000, 0));
        check.argument(book, "51 peaks", () -> book.amend(order, 1000, 51));
        check.argument(book, "all", () -> book.amend(order, -1, 100001));
    }
}
