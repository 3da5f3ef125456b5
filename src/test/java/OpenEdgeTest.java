/** The edges that promises 6, 7 and 8 name, a method for each sentence. */
final class OpenEdgeTest {
    private static final Check check = new Check("OpenEdgeTest");

    public static void main(String[] args) {
        emptyBook();
        upToTheVolume();
        fullBook();
        theReferenceThen();
        marketOrders();
        showWithoutNewRanks();
        endsCallOrStopped();
        itIsGoingOn();
        thePhaseThatItWas();
        referenceAndBand();
        anotherReference();
        check.end();
    }

    private static void emptyBook() {
        check.says("if there is a price");
        CallBook book = new CallBook();
        check.due("open() of an empty book", book.open(), 0);
        check.due("told(0)", book.told(0), 1);
        check.due("told(6)", book.told(6), 0);
        for (boolean buys : new boolean[] {true, false}) {
            CallBook one = new CallBook();
            one.place(0, buys, 5, 7, 2, 0);
            check.due("open() of one side alone", one.open(), 0);
            check.order(one, 0, 7, 2, 0);
        }
        CallBook apart = new CallBook();
        apart.place(0, true, 5, 1, 0, 0);
        apart.place(0, false, 6, 1, 0, 0);
        check.due("open() of prices 1 apart", apart.open(), 0);
    }

    private static void upToTheVolume() {
        check.says("orders trade at it, the first to buy with the first to sell, and so on, up to the volume");
        for (int offered = 9; offered <= 11; offered++) {
            CallBook book = new CallBook();
            book.place(0, true, 6, 5, 1, 0);
            book.place(0, true, 5, 5, 0, 0);
            book.place(0, true, 4, 5, 0, 0);
            book.place(0, false, 5, offered, 1, 0);
            check.due("open()", book.open(), Math.min(10, offered));
            check.trade(book, 0, 0, 3, 5, 5);
            check.trade(book, 1, 1, 3, 5, Math.min(5, offered - 5));
            check.due("told(6)", book.told(6), 2);
            check.due("left to sell", book.order(3, 3), Math.max(0, offered - 10));
            check.due("left to buy", book.order(1, 3), Math.max(0, 10 - offered));
            check.order(book, 2, 5, 5, 2);
        }
    }

    private static void fullBook() {
        check.says("as much as is left of both at a time");
        CallBook book = new CallBook();
        for (int i = 0; i < 249; i++) {
            book.place(0, true, 1000, 400, 8, 0);
        }
        book.place(0, false, 1000, 249 * 400, 0, 0);
        check.due("open()", book.open(), 249 * 400);
        check.due("told(6)", book.told(6), 249);
        check.trade(book, 0, 0, 249, 1000, 400);
        check.trade(book, 248, 248, 249, 1000, 400);
        check.due("none rests", book.told(4) + book.told(5), 0);
        CallBook most = new CallBook();
        for (int i = 0; i < 125; i++) {
            most.place(0, true, 1000, i == 0 ? 50000 : 100000, 0, 0);
            most.place(0, false, 1000, 100000, 0, 0);
        }
        check.due("open()", most.open(), 12450000);
        check.due("each trade uses up one order", most.told(6), 249);
        check.due("the last one", most.order(249, 3), 50000);
    }

    private static void theReferenceThen() {
        check.says("the price is the reference then");
        for (int price : new int[] {1, 2000}) {
            CallBook book = new CallBook();
            book.place(0, true, price, 1, 0, 0);
            book.place(0, false, price, 1, 0, 0);
            book.open();
            check.due("told(1)", book.told(1), price);
        }
        CallBook none = new CallBook();
        none.place(0, true, 5, 1, 0, 0);
        none.band(77, 3);
        none.open();
        check.due("told(1) without a price", none.told(1), 77);
        check.due("told(2)", none.told(2), 3);
        CallBook band = new CallBook();
        band.band(1000, 1);
        band.place(0, true, 2000, 1, 0, 0);
        band.place(0, false, 2000, 1, 0, 0);
        check.due("the band does not hold back a clearing", band.open(), 1);
        check.due("told(1)", band.told(1), 2000);
        check.due("told(2)", band.told(2), 1);
    }

    private static void marketOrders() {
        check.says("Market orders that rest still are over.");
        for (int offered = 4; offered <= 6; offered++) {
            CallBook book = new CallBook();
            book.place(0, true, 0, 5, 2, 0);
            book.place(0, false, 0, offered, 0, 0);
            check.due("open()", book.open(), Math.min(5, offered));
            check.over(book, 0);
            check.over(book, 1);
            check.due("none rests", book.told(4) + book.told(5), 0);
            check.due("told(7)", book.told(7), Math.min(5, offered));
        }
        CallBook full = new CallBook();
        for (int i = 0; i < 250; i++) {
            full.place(0, false, 0, 1, 0, 0);
        }
        check.due("open() of 250 market orders to sell", full.open(), 0);
        check.line(full, false);
        CallBook cheap = new CallBook();
        cheap.place(0, true, 0, 1, 0, 0);
        cheap.place(0, true, 1, 1, 0, 0);
        cheap.open();
        check.over(cheap, 0);
        check.order(cheap, 1, 1, 1, 1);
    }

    private static void showWithoutNewRanks() {
        check.says("all show as much as they may, without new ranks");
        for (int taken = 1; taken <= 9; taken++) {
            CallBook book = Books.going();
            book.place(0, false, 5, 10, 4, 0);
            book.place(0, true, 5, taken, 0, 0);
            int rank = book.order(0, 5);
            check.due("it gets a rank when nothing is shown", rank, taken < 4 ? 0 : taken < 8 ? 1 : 2);
            book.call();
            book.open();
            check.order(book, 0, 10 - taken, Math.min(4, 10 - taken), rank);
            check.due("the next rank", book.order(book.place(0, false, 5, 1, 0, 0), 5), rank + 1);
        }
    }

    private static void endsCallOrStopped() {
        check.says("CALL, or STOPPED, ends .. It is GOING ON");
        for (CallBook book : Books.inEachPhase()) {
            if (book.told(0) != 1) {
                check.due("open()", book.open(), 0);
                check.due("told(0)", book.told(0), 1);
            }
        }
    }

    private static void itIsGoingOn() {
        check.says("open: IllegalState: it is GOING ON");
        CallBook book = Books.going();
        check.state(book, "open() of an empty book", () -> book.open());
        book.place(0, true, 5, 10, 4, 0);
        book.place(0, false, 5, 1, 0, 0);
        check.state(book, "open() when one could show more", () -> book.open());
        CallBook full = Books.full();
        full.open();
        check.state(full, "open() of a full book", () -> full.open());
        full.call();
        check.due("open() after call()", full.open(), 0);
    }

    private static void thePhaseThatItWas() {
        check.says("It is CALL again: the phase that it was.");
        int[] phases = {0, 1, 2, 0};
        CallBook[] books = Books.inEachPhase();
        for (int i = 0; i < phases.length; i++) {
            check.due("call()", books[i].call(), phases[i]);
            check.due("told(0)", books[i].told(0), 0);
            check.due("call() again", books[i].call(), 0);
        }
    }

    private static void referenceAndBand() {
        check.says("Another reference (1 .. 2000) and band (0 .. 2000)");
        for (CallBook book : Books.inEachPhase()) {
            long phase = book.told(0);
            int[][] taken = {{1, 0}, {1, 2000}, {2000, 0}, {2000, 2000}};
            for (int[] row : taken) {
                book.band(row[0], row[1]);
                check.due("told(1)", book.told(1), row[0]);
                check.due("told(2)", book.told(2), row[1]);
            }
            for (int wrong : new int[] {0, 2001, -1, Integer.MIN_VALUE, Integer.MAX_VALUE}) {
                check.argument(book, "band(" + wrong + ", 5)", () -> book.band(wrong, 5));
            }
            for (int wrong : new int[] {-1, 2001, Integer.MIN_VALUE, Integer.MAX_VALUE}) {
                check.argument(book, "band(5, " + wrong + ")", () -> book.band(5, wrong));
                check.argument(book, "band(" + wrong + ", " + wrong + ")", () -> book.band(wrong, wrong));
            }
            check.due("the phase stays", book.told(0), phase);
        }
    }

    private static void anotherReference() {
        check.says("the reference that there was");
        CallBook book = new CallBook();
        check.due("the first one", book.band(1, 7), 1000);
        check.due("the next one", book.band(2000, 0), 1);
        check.due("the same", book.band(2000, 0), 2000);
        check.argument(book, "band(0, 0)", () -> book.band(0, 0));
        check.due("after one that is refused", book.band(5, 5), 2000);
        book.place(0, true, 9, 1, 0, 0);
        book.place(0, false, 9, 1, 0, 0);
        book.open();
        check.due("the price of a clearing", book.band(5, 5), 9);
    }
}
