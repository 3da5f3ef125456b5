/** The edges of how an order that comes while it is GOING ON meets others, a method for each sentence. */
final class MeetEdgeTest {
    private static final Check check = new Check("MeetEdgeTest");

    public static void main(String[] args) {
        nothingToMeet();
        asLongAsSomethingIsLeft();
        anyPriceOfAMarketOrder();
        notAboveItsOwnToBuy();
        notBelowItsOwnToSell();
        atThePriceOfTheOneThatRests();
        leftAndShown();
        showsAnew();
        meetsAFullBook();
        aTradeTakesFromBoth();
        goodRests();
        check.end();
    }

    private static void nothingToMeet() {
        check.says("An order that comes while it is GOING ON MEETS the first order of the other side");
        CallBook book = Books.going();
        book.place(0, true, 2000, 1, 0, 0);
        check.order(book, 0, 1, 1, 0);
        check.due("one of its own side is not met", book.order(book.place(0, true, 1, 1, 0, 0), 3), 1);
        check.due("told(6)", book.told(6), 0);
        CallBook other = Books.going();
        other.call();
        other.place(0, true, 2000, 1, 0, 0);
        other.place(0, false, 1, 1, 0, 0);
        check.due("told(6) in CALL", other.told(6), 0);
    }

    private static void asLongAsSomethingIsLeft() {
        check.says("as long as something of it is left");
        for (int quantity = 1; quantity <= 4; quantity++) {
            CallBook book = Books.going();
            book.place(0, false, 5, 1, 0, 0);
            book.place(0, false, 5, 1, 0, 0);
            book.place(0, false, 6, 1, 0, 0);
            book.place(0, true, 6, quantity, 0, 0);
            check.due("trades of " + quantity, book.told(6), Math.min(quantity, 3));
            check.due("left of " + quantity, book.order(3, 3), quantity == 4 ? 1 : 0);
            check.due("told(5)", book.told(5), Math.max(3 - quantity, 0));
        }
    }

    private static void anyPriceOfAMarketOrder() {
        check.says("at a price that it takes: any, if it is a market order");
        for (int price : new int[] {1, 2, 1999, 2000}) {
            CallBook book = Books.going();
            book.place(0, false, price, 1, 0, 0);
            book.place(0, true, 0, 1, 0, 0);
            check.trade(book, 0, 1, 0, price, 1);
            book.place(0, true, price, 1, 0, 0);
            book.place(0, false, 0, 1, 0, 0);
            check.trade(book, 1, 2, 3, price, 1);
        }
    }

    private static void notAboveItsOwnToBuy() {
        check.says("else a price not above its own to buy");
        for (int own : new int[] {1, 1000, 1999, 2000}) {
            for (int price = Math.max(1, own - 1); price <= Math.min(2000, own + 1); price++) {
                CallBook book = Books.going();
                book.place(0, false, price, 1, 0, 0);
                book.place(0, true, own, 1, 0, 0);
                check.due(own + " takes " + price, book.told(6), price <= own ? 1 : 0);
                check.due("told(4)", book.told(4), price <= own ? 0 : 1);
            }
        }
    }

    private static void notBelowItsOwnToSell() {
        check.says("not below it to sell");
        for (int own : new int[] {1, 2, 1000, 2000}) {
            for (int price = Math.max(1, own - 1); price <= Math.min(2000, own + 1); price++) {
                CallBook book = Books.going();
                book.place(0, true, price, 1, 0, 0);
                book.place(0, false, own, 1, 0, 0);
                check.due(own + " takes " + price, book.told(6), price >= own ? 1 : 0);
                check.due("told(5)", book.told(5), price >= own ? 0 : 1);
            }
        }
    }

    private static void atThePriceOfTheOneThatRests() {
        check.says("They trade, at the price of the one that rests");
        CallBook book = Books.going();
        book.place(0, false, 1, 1, 0, 0);
        book.place(0, true, 2000, 1, 0, 0);
        check.trade(book, 0, 1, 0, 1, 1);
        book.place(0, true, 2000, 1, 0, 0);
        book.place(0, false, 1, 1, 0, 0);
        check.trade(book, 1, 2, 3, 2000, 1);
    }

    private static void leftAndShown() {
        check.says("as much as is left of the one and shown of the other");
        int[][] due = {{3, 1, 3}, {4, 1, 4}, {5, 2, 1}};
        for (int[] row : due) {
            CallBook book = Books.going();
            book.place(0, false, 5, 9, 4, 0);
            book.place(0, true, 5, row[0], 0, 0);
            check.due("trades of " + row[0], book.told(6), row[1]);
            check.due("the last one", book.trade(row[1] - 1, 3), row[2]);
            check.due("told(7)", book.told(7), row[0]);
        }
    }

    private static void showsAnew() {
        check.says("if nothing is shown then, but something left, it shows as much as it may, and gets a rank");
        // Taken of 9 that show 4: left, shown and rank after it; another order at that price has rank 1.
        int[][] due = {{3, 6, 1, 0}, {4, 5, 4, 2}};
        for (int[] row : due) {
            CallBook book = peakAndAnother();
            book.place(0, true, 5, row[0], 0, 0);
            check.order(book, 0, row[1], row[2], row[3]);
            check.line(book, false, row[0] < 4 ? new int[] {0, 1} : new int[] {1, 0});
        }
        CallBook book = peakAndAnother();
        book.cancel(1);
        book.place(0, true, 5, 8, 0, 0);
        check.order(book, 0, 1, 1, 3);
        book.place(0, true, 5, 1, 0, 0);
        check.over(book, 0);
        check.due("the next rank", book.order(book.place(0, false, 5, 1, 0, 0), 5), 4);
    }

    private static CallBook peakAndAnother() {
        CallBook book = Books.going();
        book.place(0, false, 5, 9, 4, 0);
        book.place(0, false, 5, 1, 0, 0);
        return book;
    }

    private static void meetsAFullBook() {
        check.says("as long as something of it is left, and that one rests at a price that it takes");
        CallBook book = Books.going();
        for (int i = 0; i < 249; i++) {
            book.place(0, false, 2000 - i, 50, 1, 0);
        }
        check.due("the last order", book.place(1, true, 0, 100000, 0, 1), 249);
        check.due("told(6)", book.told(6), 249 * 50);
        check.due("told(7)", book.told(7), 249 * 50);
        check.trade(book, 0, 249, 248, 1752, 1);
        check.trade(book, 249 * 50 - 1, 249, 0, 2000, 1);
        check.due("told(5)", book.told(5), 0);
        check.over(book, 249);
    }

    private static void aTradeTakesFromBoth() {
        check.says("A trade takes its quantity from what is left of both");
        CallBook book = Books.going();
        book.place(0, false, 5, 100000, 0, 0);
        book.place(0, true, 5, 1, 0, 0);
        check.order(book, 0, 99999, 99999, 0);
        check.due("order(0, 7)", book.order(0, 7), 1);
        book.place(0, true, 5, 100000, 0, 0);
        check.over(book, 0);
        check.order(book, 2, 1, 1, 1);
        check.due("order(0, 7)", book.order(0, 7), 100000);
        check.due("order(2, 7)", book.order(2, 7), 99999);
    }

    private static void goodRests() {
        check.says("Then what is left of it rests, if it is GOOD (but a market order only if it is STOPPED);"
                + " else it is over.");
        for (int life = 0; life <= 2; life++) {
            CallBook book = Books.going();
            book.place(0, false, 5, 1, 0, 0);
            book.place(0, true, 5, 2, 0, life);
            check.due("with a price, life " + life, book.told(4), life == 0 ? 1 : 0);
            book.place(0, true, 0, 2, 0, life);
            check.due("a market order, life " + life, book.order(2, 5), -1);
        }
    }
}
