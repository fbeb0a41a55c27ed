/** Promises 9, 10 and 11: append, clearBuffer, firstError. */
public final class TextTest {
    private static final String TEN = "a>b=c>d=e>f=g>h=i>j";

    public static void main(String[] args) {
        appends();
        clears();
        errors();
        Check.end();
    }

    private static void appends() {
        FieldBook book = new FieldBook();
        Check.due("append(33)", book.append(33), 1);
        Check.due("append(126)", book.append(126), 2);
        for (int code : new int[] {32, 127, 0, -1, Integer.MIN_VALUE, Integer.MAX_VALUE, 97 + 65536}) {
            Check.refused("append(" + code + ")", book, Check.ARGUMENT, () -> book.append(code));
        }
        for (int i = 3; i <= 30; i++) {
            Check.due("append no. " + i, book.append(97), i);
        }
        Check.refused("append no. 31", book, Check.STATE, () -> book.append(97));
        Check.refused("append no. 31 out of range", book, Check.ARGUMENT, () -> book.append(127));
        Check.due("append is not undoable", book.count(13), 0);
    }

    private static void clears() {
        FieldBook book = new FieldBook();
        Check.type(book, "a>b");
        Check.due("clearBuffer", book.clearBuffer(), 3);
        Check.due("clearBuffer again", book.clearBuffer(), 0);
        Check.due("append after it", book.append(97), 1);
        for (int i = 2; i <= 30; i++) {
            book.append(62);
        }
        Check.due("clearBuffer of a full one", book.clearBuffer(), 30);
        Check.due("clearBuffer is not undoable", book.count(13), 0);
    }

    private static void error(String text, int want) {
        FieldBook book = new FieldBook();
        Check.type(book, text);
        Check.looks("firstError of " + text, book, want, () -> book.firstError());
    }

    private static void errors() {
        error("", 0);
        error("a", 1);
        error("j", 1);
        error("k", 0);
        error("`", 0);
        error("A", 0);
        error("!", 0);
        error("~", 0);
        error(">", 0);
        error("=", 0);
        error("a>", 2);
        error("a=", 2);
        error("a<", 1);
        error("a?", 1);
        error("ab", 1);
        error("aa", 1);
        error("a>>", 2);
        error("a==", 2);
        error("a>k", 2);
        error("a>a", 2);
        error("a>b>a", 4);
        error("a>b=a", 4);
        error("j=i=j", 4);
        error("a>b=c", 5);
        error("a>b=c-d>e", 5);
        error("k>a>a", 0);
        error(TEN, 19);
        error(TEN + ">", 19);
        error(TEN + "=", 19);
        error(TEN + ">a", 19);
        error(TEN + "x", 19);
        error(TEN.substring(0, 18), 18);
        error(TEN.substring(0, 18) + "a", 18);
        error("a>b>c>d>e>f>g>h>i>j>a>b>c>d>e>", 19);
        error("aaaaaaaaaaaaaaaaaaaaaaaaaaaaaa", 1);
    }
}
