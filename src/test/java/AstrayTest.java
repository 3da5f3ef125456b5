import java.lang.reflect.Field;
import java.util.List;

/** Promise 15: astray. By the face alone nothing goes astray, so the inside is spoilt here. */
final class AstrayTest {
    private static final Check check = new Check("AstrayTest");
    private static CallBook last;

    public static void main(String[] args) throws ReflectiveOperationException {
        rightInEveryPhase();
        spoilt(1, order(filled(), 0), "shown", 4);
        spoilt(1, order(filled(), 0), "left", 6);
        spoilt(1, order(filled(), 1), "shown", 4);
        spoilt(1, order(filled(), 1), "shown", 0);
        spoilt(1, order(filled(), 1), "left", 0);
        spoilt(1, order(filled(), 5), "left", 1);
        spoilt(1, order(filled(), 5), "shown", 1);
        spoilt(1, order(filled(), 2), "price", 991);
        spoilt(1, order(filled(), 1), "rank", 0);
        spoilt(1, order(filled(), 0), "left", 0);
        spoilt(1, order(filled(), 0), "left", 100001);
        lost();
        crossed();
        check.due("astray() of a new object", new CallBook().astray(), 0);
        check.end();
    }

    /** To buy: 0, 5 at 990; 1, 9 at 990, showing 3; 2, 5 at 980. To sell: 3, 4. Over: 5. */
    private static CallBook filled() {
        CallBook book = new CallBook();
        book.place(0, true, 990, 5, 0, 0);
        book.place(1, true, 990, 9, 3, 0);
        book.place(2, true, 980, 5, 0, 0);
        book.place(3, false, 1010, 5, 0, 0);
        book.place(4, false, 1020, 5, 2, 0);
        book.place(5, false, 1020, 5, 2, 0);
        book.cancel(5);
        book.open();
        last = book;
        return book;
    }

    private static void rightInEveryPhase() {
        CallBook book = filled();
        check.due("GOING ON", book.astray(), 0);
        book.place(6, true, 1020, 6, 0, 1);
        check.due("after trades with a peak", book.astray(), 0);
        book.band(500, 1);
        book.place(7, false, 1, 5, 0, 0);
        check.due("told(0)", book.told(0), 2);
        check.due("STOPPED, and crossed", book.astray(), 0);
        book.band(500, 0);
        check.due("STOPPED without a band, and crossed", book.astray(), 0);
        book.call();
        check.due("CALL, and crossed", book.astray(), 0);
        book.open();
        check.due("GOING ON again", book.astray(), 0);
    }

    private static void lost() throws ReflectiveOperationException {
        CallBook book = filled();
        Object buyers = field(book, "buyers").get(book);
        ((List<?>) field(buyers, "line").get(buyers)).remove(2);
        check.due("one that rests stands nowhere", book.astray(), 1);
        field(order(book, 5), "left").setInt(order(book, 5), 1);
        check.due("and something is left of one that is over", book.astray(), 2);
    }

    private static void crossed() throws ReflectiveOperationException {
        CallBook book = new CallBook();
        book.place(0, true, 1001, 5, 0, 0);
        book.place(0, true, 999, 5, 0, 0);
        book.place(1, false, 1000, 5, 0, 0);
        check.due("CALL, and crossed", book.astray(), 0);
        field(book, "phase").setInt(book, 1);
        check.due("GOING ON, two could trade", book.astray(), 2);
        book.band(1000, 5);
        check.due("with a band", book.astray(), 0);
    }

    private static Field field(Object object, String name) throws ReflectiveOperationException {
        Field field = object.getClass().getDeclaredField(name);
        field.setAccessible(true);
        return field;
    }

    private static Object order(CallBook book, int number) throws ReflectiveOperationException {
        return ((List<?>) field(book, "orders").get(book)).get(number);
    }

    private static void spoilt(int due, Object order, String name, int value) throws ReflectiveOperationException {
        check.due("astray() of the book that is to be spoilt", last.astray(), 0);
        field(order, name).setInt(order, value);
        check.due("astray() with another " + name + ", " + value, last.astray(), due);
    }
}
