/** Counts the answers that are not as due, and tells them. */
final class Check {
    interface Call {
        long run();
    }

    private final String name;
    private int made;
    private int wrong;
    private String sentence = "";
    private int madeBefore = -1;

    Check(String name) {
        this.name = name;
    }

    /** The checks from here on are of this sentence of the document; each needs one at least. */
    void says(String words) {
        if (made == madeBefore) {
            tell("there is no check");
        }
        sentence = " \"" + words + "\"";
        madeBefore = made;
    }

    void due(String call, long got, long want) {
        made++;
        if (got != want) {
            tell(call + " answered " + got + ", due is " + want);
        }
    }

    private void tell(String fault) {
        wrong++;
        System.out.println(name + sentence + ": " + fault);
    }

    void due(String call, boolean got, boolean want) {
        due(call, got ? 1 : 0, want ? 1 : 0);
    }

    /** The call throws IllegalArgumentException and changes nothing. */
    void argument(CallBook book, String call, Runnable run) {
        refused(book, call, IllegalArgumentException.class, run);
    }

    /** The call throws IllegalStateException and changes nothing. */
    void state(CallBook book, String call, Runnable run) {
        refused(book, call, IllegalStateException.class, run);
    }

    private void refused(CallBook book, String call, Class<?> due, Runnable run) {
        String before = picture(book);
        String thrown = "nothing";
        try {
            run.run();
        } catch (RuntimeException e) {
            thrown = e.getClass().getName();
        }
        made++;
        if (!thrown.equals(due.getName())) {
            tell(call + " threw " + thrown + ", due is " + due.getName());
        }
        if (!before.equals(picture(book))) {
            tell(call + " threw and changed something");
        }
    }

    /** The orders of a side stand just so. */
    void line(CallBook book, boolean buys, int... want) {
        for (int i = 0; i < want.length; i++) {
            due("at(" + buys + ", " + i + ")", book.at(buys, i), want[i]);
        }
        due("at(" + buys + ", " + want.length + ")", book.at(buys, want.length), CallBook.NONE);
    }

    /** Trade i is just so. */
    void trade(CallBook book, int i, int... want) {
        for (int what = 0; what < 4; what++) {
            due("trade(" + i + ", " + what + ")", book.trade(i, what), want[what]);
        }
    }

    /** What is left of an order, what it shows and its rank. */
    void order(CallBook book, int order, int left, int shown, int rank) {
        due("order(" + order + ", 3)", book.order(order, 3), left);
        due("order(" + order + ", 4)", book.order(order, 4), shown);
        due("order(" + order + ", 5)", book.order(order, 5), rank);
    }

    void over(CallBook book, int order) {
        order(book, order, 0, 0, CallBook.NONE);
    }

    /** Every answer that the book gives of its state, in one text. */
    static String picture(CallBook book) {
        StringBuilder text = new StringBuilder();
        for (int what = 0; what < 8; what++) {
            text.append(book.told(what)).append(' ');
        }
        for (int order = 0; order < book.told(3); order++) {
            for (int what = 0; what < 9; what++) {
                text.append(book.order(order, what)).append(' ');
            }
            boolean buys = book.order(order, 1) == 1;
            text.append(book.depth(buys, book.order(order, 2), false)).append(' ');
            text.append(book.depth(buys, book.order(order, 2), true)).append(' ');
        }
        for (int i = 0; i < book.told(4); i++) {
            text.append(book.at(true, i)).append(' ');
        }
        for (int i = 0; i < book.told(5); i++) {
            text.append(book.at(false, i)).append(' ');
        }
        for (int i = 0; i < book.told(6); i++) {
            for (int what = 0; what < 4; what++) {
                text.append(book.trade(i, what)).append(' ');
            }
        }
        for (int what = 0; what < 3; what++) {
            text.append(book.clearing(what)).append(' ');
        }
        return text.append(book.astray()).toString();
    }

    void end() {
        says("");
        System.out.println(name + ": " + made + " checks, " + wrong + " wrong");
        if (wrong != 0 || made == 0) {
            System.exit(1);
        }
    }
}
