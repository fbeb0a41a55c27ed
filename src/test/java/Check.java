/** Counts the answers that are not due, for the tests. */
final class Check {
    static final Class<?> INDEX = IndexOutOfBoundsException.class;
    static final Class<?> ARGUMENT = IllegalArgumentException.class;
    static final Class<?> STATE = IllegalStateException.class;
    static final int ZERO = 10000000;

    private static int wrong = 0;

    private Check() {
    }

    interface Call {
        long answer();
    }

    static void due(String what, long got, long want) {
        if (got != want) {
            wrong++;
            System.out.println(what + " answered " + got + ", due is " + want);
        }
    }

    static void due(String what, double got, double want) {
        if (Double.compare(got, want) != 0) {
            wrong++;
            System.out.println(what + " answered " + got + ", due is " + want);
        }
    }

    static void due(String what, String got, String want) {
        if (!got.equals(want)) {
            wrong++;
            System.out.println(what + " answered " + got + ", due is " + want);
        }
    }

    /** The call must throw exactly this exception, and leave the book as it is. */
    static void refused(String what, FieldBook book, Class<?> exception, Call call) {
        long before = book.digest();
        String got;
        try {
            got = "answer " + call.answer();
        } catch (RuntimeException e) {
            got = e.getClass().getName();
        }
        if (!got.equals(exception.getName())) {
            wrong++;
            System.out.println(what + " gave " + got + ", due is " + exception.getName());
        }
        if (book.digest() != before) {
            wrong++;
            System.out.println(what + " was refused, but changed the book");
        }
    }

    /** A call that must change nothing that can be seen. */
    static void looks(String what, FieldBook book, long want, Call call) {
        long before = book.digest();
        due(what, call.answer(), want);
        due("digest after " + what, book.digest(), before);
    }

    /** Puts a text into the buffer, in place of what it holds. */
    static void type(FieldBook book, String text) {
        book.clearBuffer();
        for (int i = 0; i < text.length(); i++) {
            book.append(text.charAt(i));
        }
    }

    /** A book of some horses, all at the price a to b. */
    static FieldBook field(int horses, int a, int b) {
        FieldBook book = new FieldBook();
        for (int i = 0; i < horses; i++) {
            book.horse(a, b);
        }
        return book;
    }

    static long arrived(FieldBook book, String text) {
        type(book, text);
        return book.ifArrived();
    }

    static long settled(FieldBook book, String text) {
        type(book, text);
        return book.settle();
    }

    static void end() {
        if (wrong != 0) {
            System.out.println(wrong + " answers are not as due");
            System.exit(1);
        }
    }
}
