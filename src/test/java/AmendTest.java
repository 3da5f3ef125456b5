/** Promise 5: amend. */
final class AmendTest {
    private static final Check check = new Check("AmendTest");

    public static void main(String[] args) {
        wrongArguments();
        wrongStates();
        keepsItsRank();
        shownIsNoMoreThanLeft();
        comesAgainInCall();
        comesAgainWhileGoingOn();
        marketWhileGoingOn();
        stopsAtTheBand();
        check.end();
    }

    private static void wrongArguments() {
        CallBook book = new CallBook();
        check.argument(book, "amend of none", () -> book.amend(0, 1000, 1));
        book.place(0, true, 1000, 10, 2, 0);
        for (int order : new int[] {-1, 1, Integer.MAX_VALUE, Integer.MIN_VALUE}) {
            check.argument(book, "amend(" + order + ", ..)", () -> book.amend(order, 1000, 1));
        }
        for (int price : new int[] {-1, 2001, Integer.MAX_VALUE, Integer.MIN_VALUE}) {
            check.argument(book, "amend(0, " + price + ", 1)", () -> book.amend(0, price, 1));
        }
        for (int quantity : new int[] {-1, 0, 100001, 101, Integer.MAX_VALUE, Integer.MIN_VALUE}) {
            check.argument(book, "amend(0, 1000, " + quantity + ")", () -> book.amend(0, 1000, quantity));
        }
        check.due("50 times the peak", book.amend(0, 1000, 100), true);
        check.due("price 2000", book.amend(0, 2000, 1), true);
        book.place(0, true, 1, 1, 0, 0);
        check.due("quantity 100000", book.amend(1, 1, 100000), true);
        book.cancel(0);
        check.argument(book, "over, and the price wrong", () -> book.amend(0, -1, 1));
        check.argument(book, "over, and beyond its peak", () -> book.amend(0, 1000, 101));
    }

    private static void wrongStates() {
        CallBook book = new CallBook();
        book.place(0, true, 900, 10, 0, 0);
        book.place(0, true, 901, 10, 0, 0);
        book.cancel(0);
        check.state(book, "amend of one that is over", () -> book.amend(0, 900, 5));
        book.open();
        check.state(book, "amend of one that is over", () -> book.amend(0, 900, 5));
        book.band(1000, 1);
        book.place(1, false, 1500, 1, 0, 0);
        book.place(1, true, 1500, 1, 0, 0);
        check.state(book, "amend when STOPPED", () -> book.amend(1, 901, 5));
        check.state(book, "amend when STOPPED", () -> book.amend(1, 902, 5));
        check.argument(book, "both", () -> book.amend(1, 902, 0));
        book.call();
        check.due("amend in CALL again", book.amend(1, 901, 5), true);
    }

    private static void keepsItsRank() {
        CallBook book = new CallBook();
        book.place(0, true, 1000, 10, 0, 0);
        book.place(1, true, 1000, 10, 0, 0);
        check.due("the same", book.amend(0, 1000, 10), true);
        check.order(book, 0, 10, 10, 0);
        check.due("less", book.amend(0, 1000, 4), true);
        check.order(book, 0, 4, 4, 0);
        check.line(book, true, 0, 1);
        check.due("more again", book.amend(0, 1000, 5), true);
        check.order(book, 0, 5, 5, 2);
        check.line(book, true, 1, 0);
        book.open();
        check.due("less while GOING ON", book.amend(1, 1000, 1), true);
        check.order(book, 1, 1, 1, 1);
    }

    private static void shownIsNoMoreThanLeft() {
        CallBook book = new CallBook();
        book.open();
        book.place(0, false, 1000, 20, 6, 0);
        book.place(1, true, 1000, 2, 0, 0);
        check.order(book, 0, 18, 4, 0);
        book.amend(0, 1000, 17);
        check.order(book, 0, 17, 4, 0);
        book.amend(0, 1000, 3);
        check.order(book, 0, 3, 3, 0);
        check.due("traded", book.order(0, 7), 2);
        book.amend(0, 1000, 4);
        check.order(book, 0, 4, 4, 1);
        book.amend(0, 1000, 9);
        check.order(book, 0, 9, 6, 2);
        check.due("traded", book.order(0, 7), 2);
    }

    private static void comesAgainInCall() {
        CallBook book = new CallBook();
        book.place(0, true, 1000, 10, 3, 0);
        book.place(1, true, 1000, 10, 0, 0);
        book.place(2, false, 990, 10, 0, 0);
        check.due("another price, less", book.amend(0, 1001, 2), true);
        check.order(book, 0, 2, 2, 3);
        check.due("price", book.order(0, 2), 1001);
        check.line(book, true, 0, 1);
        check.due("to a market order", book.amend(1, 0, 10), true);
        check.line(book, true, 1, 0);
        check.order(book, 1, 10, 10, 4);
        check.due("the same market order, less", book.amend(1, 0, 9), true);
        check.order(book, 1, 9, 9, 4);
        check.due("back to a price", book.amend(1, 1, 9), true);
        check.line(book, true, 0, 1);
        check.due("no trades in CALL", book.told(6), 0);
    }

    private static void comesAgainWhileGoingOn() {
        CallBook book = new CallBook();
        book.open();
        book.place(0, true, 990, 10, 4, 0);
        book.place(1, false, 1000, 3, 0, 0);
        book.place(1, false, 1001, 3, 0, 0);
        check.due("meets and rests", book.amend(0, 1000, 12), true);
        check.trade(book, 0, 0, 1, 1000, 3);
        check.order(book, 0, 9, 4, 3);
        check.due("traded", book.order(0, 7), 3);
        check.due("meets and is over", book.amend(0, 1001, 2), false);
        check.trade(book, 1, 0, 2, 1001, 2);
        check.over(book, 0);
        check.due("traded", book.order(0, 7), 5);
        check.due("price", book.order(0, 2), 1001);
        check.order(book, 2, 1, 1, 2);
        check.line(book, true);
    }

    private static void marketWhileGoingOn() {
        CallBook book = new CallBook();
        book.open();
        book.place(0, true, 990, 10, 0, 0);
        check.due("to a market order that meets none", book.amend(0, 0, 10), false);
        check.over(book, 0);
        check.due("price", book.order(0, 2), 0);
        check.due("told(4)", book.told(4), 0);
    }

    private static void stopsAtTheBand() {
        CallBook book = new CallBook();
        book.open();
        book.band(1000, 10);
        book.place(0, true, 990, 10, 0, 0);
        book.place(1, false, 1500, 10, 0, 0);
        check.due("to a market order that is stopped", book.amend(0, 0, 8), true);
        check.order(book, 0, 8, 8, 2);
        check.due("told(0)", book.told(0), 2);
        check.due("told(6)", book.told(6), 0);
        check.due("open()", book.open(), 8);
        check.trade(book, 0, 0, 1, 1500, 8);
    }
}
