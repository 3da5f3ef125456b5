/** The edges of the band, out of which trading stops, and of orders that go as a WHOLE. */
final class BandEdgeTest {
    private static final Check check = new Check("BandEdgeTest");

    public static void main(String[] args) {
        bandOf0();
        fartherThanTheBand();
        atTheEndsOfThePrices();
        withoutThatTrade();
        restsWhenStopped();
        wholeAndItsQuantity();
        wholeAndHidden();
        wholeAndPricesNotTaken();
        wholeBeyondTheBand();
        wholeMeetsNobody();
        check.end();
    }

    /** Whether one to sell, or to buy, at that price stops an order that takes it. */
    private static void stops(int reference, int band, int price, boolean stops) {
        for (int i = 0; i < 4; i++) {
            boolean buys = i % 2 == 0;
            CallBook book = Books.going();
            book.band(reference, band);
            book.place(0, !buys, price, 1, 0, 0);
            book.place(0, buys, i < 2 ? price : 0, 1, 0, 0);
            String call = "band " + band + " at " + reference + ", price " + price;
            check.due(call + ": the phase", book.told(0), stops ? 2 : 1);
            check.due(call + ": trades", book.told(6), stops ? 0 : 1);
        }
    }

    private static void bandOf0() {
        check.says("But if the band is not 0");
        stops(1000, 0, 1000, false);
        stops(1000, 0, 1001, false);
        stops(1, 0, 2000, false);
        stops(2000, 0, 1, false);
    }

    private static void fartherThanTheBand() {
        check.says("and that price is farther from the reference than the band: it is STOPPED");
        for (int band : new int[] {1, 2, 500, 998}) {
            stops(1000, band, 1000, false);
            stops(1000, band, 1000 + band, false);
            stops(1000, band, 1000 - band, false);
            stops(1000, band, 1000 + band + 1, true);
            stops(1000, band, 1000 - band - 1, true);
        }
    }

    private static void atTheEndsOfThePrices() {
        check.says("farther from the reference than the band");
        stops(1, 1998, 2000, true);
        stops(1, 1999, 2000, false);
        stops(2000, 1998, 1, true);
        stops(2000, 1999, 1, false);
        stops(2000, 2000, 1, false);
        stops(1, 2000, 2000, false);
    }

    private static void withoutThatTrade() {
        check.says("it is STOPPED, without that trade, and it meets no more");
        CallBook book = Books.going();
        book.band(1000, 10);
        book.place(0, false, 1010, 3, 0, 0);
        book.place(0, false, 1011, 3, 0, 0);
        check.due("all within the band", book.order(book.place(0, true, 2000, 2, 0, 0), 7), 2);
        check.due("told(0)", book.told(0), 1);
        check.due("up to the last within the band", book.order(book.place(0, true, 2000, 1, 0, 0), 7), 1);
        check.due("told(0)", book.told(0), 1);
        check.due("none within the band", book.order(book.place(0, true, 2000, 1, 0, 0), 7), 0);
        check.due("told(0)", book.told(0), 2);
        check.order(book, 1, 3, 3, 1);
        check.order(book, 4, 1, 1, 2);
        check.due("told(6)", book.told(6), 2);
    }

    private static void restsWhenStopped() {
        check.says("Then what is left of it rests, if it is GOOD (but a market order only if it is STOPPED);"
                + " else it is over.");
        for (int price : new int[] {0, 1011}) {
            for (int life = 0; life < 2; life++) {
                CallBook book = Books.going();
                book.band(1000, 10);
                book.place(0, false, 1010, 3, 0, 0);
                book.place(0, false, 1011, 3, 0, 0);
                book.place(0, true, price, 4, 0, life);
                check.due("told(0)", book.told(0), 2);
                check.due("traded", book.order(2, 7), 3);
                check.order(book, 2, 1 - life, 1 - life, life == 0 ? 2 : -1);
                check.due("told(4)", book.told(4), 1 - life);
            }
        }
    }

    /** A WHOLE one of that quantity goes, or it is over without a trade; the phase stays. */
    private static void whole(CallBook book, boolean buys, int price, int quantity, boolean goes) {
        long before = book.told(6);
        long sum = book.told(7);
        int order = book.place(9, buys, price, quantity, 0, 2);
        check.over(book, order);
        String call = "a WHOLE one at " + price + " of " + quantity;
        check.due(call + ": traded", book.order(order, 7), goes ? quantity : 0);
        check.due(call + ": all that was traded", book.told(7) - sum, goes ? quantity : 0);
        check.due(call + ": trades", book.told(6) > before, goes);
        check.due(call + ": the phase", book.told(0), 1);
    }

    private static void wholeAndItsQuantity() {
        check.says("A WHOLE one is over at once, without a trade, if all that is left .. is less than its quantity.");
        for (int price : new int[] {0, 1000}) {
            CallBook book = Books.going();
            book.place(0, false, 1000, 5, 0, 0);
            book.place(0, false, 999, 5, 0, 0);
            whole(book, true, price, 11, false);
            whole(book, true, price, 10, true);
            book.place(0, true, 1000, 5, 0, 0);
            book.place(0, true, 1001, 5, 0, 0);
            whole(book, false, price, 11, false);
            whole(book, false, price, 9, true);
            whole(book, false, price, 2, false);
            whole(book, false, price, 1, true);
        }
    }

    private static void wholeAndHidden() {
        check.says("all that is left (not only shown)");
        CallBook book = Books.going();
        book.place(0, false, 1000, 50, 1, 0);
        book.place(0, false, 1001, 7, 3, 0);
        whole(book, true, 1001, 58, false);
        whole(book, true, 1000, 51, false);
        whole(book, true, 1001, 57, true);
        check.due("told(5)", book.told(5), 0);
    }

    private static void wholeAndPricesNotTaken() {
        check.says("of the orders of the other side, from the first one on, up to one whose price it does not take");
        CallBook book = Books.going();
        book.place(0, false, 1000, 5, 0, 0);
        book.place(0, false, 1001, 5, 0, 0);
        whole(book, true, 999, 1, false);
        whole(book, true, 1000, 6, false);
        whole(book, true, 1000, 5, true);
        whole(book, true, 1000, 1, false);
        book.place(0, true, 900, 5, 0, 0);
        book.place(0, true, 899, 5, 0, 0);
        whole(book, false, 901, 1, false);
        whole(book, false, 900, 6, false);
        whole(book, false, 900, 5, true);
    }

    private static void wholeBeyondTheBand() {
        check.says("or that is beyond the band");
        for (int far = 10; far <= 11; far++) {
            CallBook book = Books.going();
            book.band(1000, 10);
            book.place(0, false, 1009, 5, 0, 0);
            book.place(0, false, 1000 + far, 5, 0, 0);
            whole(book, true, 0, 6, far == 10);
            CallBook other = Books.going();
            other.band(1000, 10);
            other.place(0, true, 991, 5, 0, 0);
            other.place(0, true, 1000 - far, 5, 0, 0);
            whole(other, false, 0, 6, far == 10);
            whole(other, false, 0, far == 10 ? 4 : 5, true);
        }
        CallBook none = Books.going();
        none.place(0, false, 2000, 5, 0, 0);
        whole(none, true, 0, 5, true);
    }

    private static void wholeMeetsNobody() {
        check.says("A WHOLE one is over at once, without a trade");
        CallBook book = Books.going();
        whole(book, true, 2000, 1, false);
        whole(book, false, 1, 1, false);
        whole(book, true, 0, 1, false);
        check.due("told(4)", book.told(4), 0);
        check.due("told(5)", book.told(5), 0);
    }
}
