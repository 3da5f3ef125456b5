/** The edges that promises 1 and 2 name, a method for each sentence. */
final class PlaceEdgeTest {
    private static final int MOST = Integer.MAX_VALUE;
    private static final int LEAST = Integer.MIN_VALUE;
    private static final Check check = new Check("PlaceEdgeTest");

    public static void main(String[] args) {
        noOrders();
        owners();
        prices();
        quantities();
        peaks();
        lives();
        peakAndLife();
        fiftyPeaks();
        thereAre250();
        stopped();
        notGoingOn();
        both();
        check.end();
    }

    private static void refused(int owner, int price, int quantity, int peak, int life) {
        String call = "place(" + owner + ", .., " + price + ", " + quantity + ", " + peak + ", " + life + ")";
        for (CallBook book : Books.inEachPhase()) {
            check.argument(book, call + " to buy", () -> book.place(owner, true, price, quantity, peak, life));
            check.argument(book, call + " to sell", () -> book.place(owner, false, price, quantity, peak, life));
        }
    }

    private static void taken(int owner, int price, int quantity, int peak, int life) {
        String call = "place(" + owner + ", .., " + price + ", " + quantity + ", " + peak + ", " + life + ")";
        for (CallBook book : new CallBook[] {new CallBook(), Books.going()}) {
            if (life == 0 || book.told(0) == 1) {
                check.due(call + " to buy", book.place(owner, true, price, quantity, peak, life), 0);
                book.cancelAll(owner);
                check.due(call + " to sell", book.place(owner, false, price, quantity, peak, life), 1);
            }
        }
    }

    private static void noOrders() {
        check.says("A new object: No orders.");
        CallBook book = new CallBook();
        check.due("told(3)", book.told(3), 0);
        check.due("at(true, 0)", book.at(true, 0), -1);
        check.due("at(false, 0)", book.at(false, 0), -1);
        check.argument(book, "order(0, 0)", () -> book.order(0, 0));
        check.argument(book, "cancel(0)", () -> book.cancel(0));
        check.argument(book, "amend(0, 1, 1)", () -> book.amend(0, 1, 1));
        for (int owner = 0; owner <= 9; owner++) {
            check.due("cancelAll(" + owner + ")", book.cancelAll(owner), 0);
        }
        check.due("call()", book.call(), 0);
        check.due("astray()", book.astray(), 0);
        check.due("open()", book.open(), 0);
        check.due("the first number", book.place(0, true, 1, 1, 0, 0), 0);
    }

    private static void owners() {
        check.says("IllegalArgument: there is no such order, owner");
        taken(0, 1000, 1, 0, 0);
        taken(9, 1000, 1, 0, 0);
        for (int owner : new int[] {-1, 10, LEAST, MOST}) {
            refused(owner, 1000, 1, 0, 0);
        }
    }

    private static void prices() {
        check.says("IllegalArgument: .. or another thing that is told (a PRICE 1 .. 2000, or 0)");
        for (int price : new int[] {0, 1, 2000}) {
            taken(0, price, 1, 0, 0);
        }
        for (int price : new int[] {-1, 2001, LEAST, MOST}) {
            refused(0, price, 1, 0, 0);
        }
    }

    private static void quantities() {
        check.says("Quantities are 1 .. 100000");
        taken(0, 1000, 1, 0, 0);
        taken(0, 1000, 100000, 0, 0);
        for (int quantity : new int[] {0, 100001, -1, LEAST, MOST}) {
            refused(0, 1000, quantity, 0, 0);
            refused(0, 1000, quantity, 100000, 0);
        }
    }

    private static void peaks() {
        check.says("peaks 0 or 1 .. 100000");
        for (int peak : new int[] {0, 1, 100000}) {
            taken(0, 1000, 1, peak, 0);
        }
        // 50 times -60000000 wraps around to one above 0.
        for (int peak : new int[] {-1, 100001, -60000000, LEAST, MOST}) {
            refused(0, 1000, 1, peak, 0);
        }
    }

    private static void lives() {
        check.says("IllegalArgument: .. or another thing that is told (a LIFE, 0 GOOD, 1 NOW, 2 WHOLE)");
        for (int life = 0; life <= 2; life++) {
            taken(0, 1000, 1, 0, life);
        }
        for (int life : new int[] {-1, 3, LEAST, MOST}) {
            refused(0, 1000, 1, 0, life);
        }
    }

    private static void peakAndLife() {
        check.says("IllegalArgument: also if there is a peak, and its life is not 0");
        taken(0, 1000, 5, 1, 0);
        taken(0, 1000, 5, 0, 1);
        taken(0, 1000, 5, 0, 2);
        for (int peak : new int[] {1, 5, 100000}) {
            refused(0, 1000, 5, peak, 1);
            refused(0, 1000, 5, peak, 2);
        }
    }

    private static void fiftyPeaks() {
        check.says("or the quantity is more than 50 times the peak");
        int[][] rows = {{1, 50}, {2, 100}, {7, 350}, {1999, 99950}};
        for (int[] row : rows) {
            taken(0, 1000, row[1], row[0], 0);
            refused(0, 1000, row[1] + 1, row[0], 0);
        }
        taken(0, 1000, 100000, 2000, 0);
        taken(0, 1000, 51, 0, 0);
        taken(0, 1000, 100000, 0, 0);
        // 50 times the greatest peak is far beyond the greatest quantity, which still holds.
        taken(0, 1000, 100000, 100000, 0);
        refused(0, 1000, 100001, 100000, 0);
    }

    private static void thereAre250() {
        check.says("IllegalState: there are 250");
        CallBook book = Books.full();
        check.due("told(3)", book.told(3), 250);
        check.state(book, "in CALL", () -> book.place(0, true, 7, 1, 0, 0));
        check.state(book, "in CALL, NOW", () -> book.place(0, true, 7, 1, 0, 1));
        book.open();
        for (int life = 0; life <= 2; life++) {
            int which = life;
            check.state(book, "GOING ON, life " + life, () -> book.place(0, false, 7, 1, 0, which));
        }
        for (int owner = 0; owner <= 9; owner++) {
            book.cancelAll(owner);
        }
        check.due("none rests", book.told(4), 0);
        check.state(book, "those that are over count too", () -> book.place(0, true, 7, 1, 0, 0));
        CallBook other = new CallBook();
        for (int i = 0; i < 249; i++) {
            other.place(0, true, 7, 1, 0, 0);
        }
        check.due("with 249", other.place(0, true, 7, 1, 0, 0), 249);
    }

    private static void stopped() {
        check.says("IllegalState: .. it is STOPPED");
        CallBook book = Books.stopped();
        for (int life = 0; life <= 2; life++) {
            int which = life;
            check.state(book, "life " + life, () -> book.place(0, true, 7, 1, 0, which));
            check.state(book, "a market order, life " + life, () -> book.place(0, false, 0, 1, 0, which));
        }
        check.state(book, "with a peak", () -> book.place(0, true, 7, 50, 1, 0));
        book.band(1000, 0);
        check.state(book, "without a band", () -> book.place(0, true, 7, 1, 0, 0));
        book.open();
        check.due("GOING ON", book.place(0, true, 7, 1, 0, 0), 2);
    }

    private static void notGoingOn() {
        check.says("IllegalState: .. or its life is not 0, and it is not GOING ON");
        for (CallBook book : Books.inEachPhase()) {
            for (int life = 1; life <= 2; life++) {
                int which = life;
                if (book.told(0) == 1) {
                    check.due("life " + life, book.place(0, true, 7, 1, 0, life), life - 1);
                } else {
                    check.state(book, "life " + life, () -> book.place(0, true, 7, 1, 0, which));
                }
            }
        }
    }

    private static void both() {
        check.says("where both fit, IllegalArgument");
        CallBook[] books = {Books.full(), Books.stopped(), new CallBook()};
        for (CallBook book : books) {
            check.argument(book, "owner", () -> book.place(10, true, 7, 1, 0, 1));
            check.argument(book, "price", () -> book.place(0, true, 2001, 1, 0, 1));
            check.argument(book, "quantity", () -> book.place(0, true, 7, 0, 0, 1));
            check.argument(book, "peak", () -> book.place(0, true, 7, 1, 100001, 0));
            check.argument(book, "a peak and a life", () -> book.place(0, true, 7, 1, 1, 1));
            check.argument(book, "more than 50 peaks", () -> book.place(0, true, 7, 51, 1, 0));
            check.argument(book, "life", () -> book.place(0, true, 7, 1, 0, 3));
        }
    }
}
