/** The edges that promises 3 and 4 name, a method for each sentence. */
final class CancelEdgeTest {
    private static final Check check = new Check("CancelEdgeTest");

    public static void main(String[] args) {
        noSuchOrder();
        whatWasLeft();
        itIsOver();
        everyPhase();
        noSuchOwner();
        howManyRested();
        fullBook();
        check.end();
    }

    private static void noSuchOrder() {
        check.says("cancel: IllegalArgument: there is no such order");
        CallBook empty = new CallBook();
        check.argument(empty, "cancel(0) of an empty book", () -> empty.cancel(0));
        for (CallBook book : new CallBook[] {new CallBook(), Books.stopped(), Books.full()}) {
            int orders = (int) book.told(3);
            for (int order : new int[] {-1, orders, Integer.MIN_VALUE, Integer.MAX_VALUE}) {
                check.argument(book, "cancel(" + order + ") of " + orders, () -> book.cancel(order));
            }
        }
        CallBook full = Books.full();
        check.due("cancel(0)", full.cancel(0), 1);
        check.due("cancel(249)", full.cancel(249), 1);
    }

    private static void whatWasLeft() {
        check.says("An order is over: what was left.");
        CallBook book = Books.going();
        book.place(0, false, 9, 1, 0, 0);
        book.place(0, false, 9, 100000, 0, 0);
        book.place(0, false, 9, 50, 1, 0);
        check.due("the least", book.cancel(0), 1);
        check.due("the most", book.cancel(1), 100000);
        book.place(0, true, 9, 49, 0, 0);
        check.due("the last of 50", book.cancel(2), 1);
        check.over(book, 2);
        check.due("traded stays", book.order(2, 7), 49);
        check.line(book, false);
    }

    private static void itIsOver() {
        check.says("cancel: IllegalState: it is.");
        CallBook book = Books.going();
        book.place(0, false, 9, 1, 0, 0);
        book.place(0, true, 9, 1, 0, 0);
        book.place(0, true, 9, 1, 0, 1);
        book.place(0, true, 9, 1, 0, 2);
        book.place(0, true, 0, 1, 0, 0);
        book.place(0, true, 9, 1, 0, 0);
        book.cancel(5);
        book.place(1, true, 9, 1, 0, 0);
        book.cancelAll(1);
        for (int order = 0; order <= 6; order++) {
            int which = order;
            check.state(book, "cancel(" + order + ")", () -> book.cancel(which));
        }
    }

    private static void everyPhase() {
        check.says("cancel: IllegalState: it is. (In no other case.)");
        CallBook call = new CallBook();
        call.place(0, true, 0, 5, 2, 0);
        check.due("in CALL", call.cancel(0), 5);
        CallBook going = Books.going();
        going.place(0, true, 9, 5, 0, 0);
        check.due("GOING ON", going.cancel(0), 5);
        CallBook stopped = Books.stopped();
        check.due("STOPPED", stopped.cancel(0), 1);
        check.due("it is STOPPED still", stopped.told(0), 2);
    }

    private static void noSuchOwner() {
        check.says("cancelAll: IllegalArgument: there is no such .. owner");
        for (CallBook book : new CallBook[] {new CallBook(), Books.going(), Books.stopped(), Books.full()}) {
            for (int owner : new int[] {-1, 10, Integer.MIN_VALUE, Integer.MAX_VALUE}) {
                check.argument(book, "cancelAll(" + owner + ")", () -> book.cancelAll(owner));
            }
        }
        CallBook full = Books.full();
        check.due("cancelAll(0)", full.cancelAll(0), 25);
        check.due("cancelAll(9)", full.cancelAll(9), 25);
    }

    private static void howManyRested() {
        check.says("All orders of an owner are over: how many rested.");
        CallBook book = new CallBook();
        check.due("of an empty book", book.cancelAll(3), 0);
        book.place(3, true, 0, 5, 2, 0);
        book.place(3, true, 9, 5, 2, 0);
        book.place(3, false, 9, 5, 0, 0);
        book.place(4, false, 9, 5, 0, 0);
        book.cancel(1);
        check.due("of an owner without orders", book.cancelAll(5), 0);
        check.due("two rest, one is over", book.cancelAll(3), 2);
        check.over(book, 0);
        check.over(book, 1);
        check.over(book, 2);
        check.order(book, 3, 5, 5, 3);
        check.due("once more", book.cancelAll(3), 0);
        check.due("the other one", book.cancelAll(4), 1);
        check.due("STOPPED", Books.stopped().cancelAll(1), 1);
    }

    private static void fullBook() {
        check.says("All orders of an owner are over (all 250 that there can be)");
        CallBook book = new CallBook();
        for (int i = 0; i < 250; i++) {
            book.place(6, i % 2 == 0, i % 2 == 0 ? i + 1 : 0, 100000, 0, 0);
        }
        check.due("cancelAll(6)", book.cancelAll(6), 250);
        check.line(book, true);
        check.line(book, false);
        check.due("depth(false, 0, true)", book.depth(false, 0, true), 0);
        check.due("astray()", book.astray(), 0);
    }
}
