/** Promise 18: count. */
public final class CountTest {
    public static void main(String[] args) {
        FieldBook book = new FieldBook();
        book.horse(2, 1);
        book.horse(5, 2);
        book.horse(10, 1);
        book.horse(100, 20);
        book.horse(6, 4);
        book.horse(7, 4);
        book.take(0, 100, false);
        book.take(1, 70, true);
        book.take(5, 33, true);
        book.layOff(0, 40, 5, 2);
        book.layOff(1, 20, 2, 1);
        book.layOff(5, 10, 2, 1);
        all(book, new int[] {6, 6, 3, 3, 306, 70, 0, 0, 0, 2, 333 + 285 + 90 + 166 + 400 + 363, 0, 0, 6});
        book.withdraw(5);
        all(book, new int[] {6, 5, 3, 3, 306, 70, 0, 0, 0, 2, 333 + 285 + 90 + 166 + 400, 0, 0, 6});
        Check.type(book, "a>b");
        book.settle();
        // the cut is 36: 100 * 2 = 200, of it 128; 70 * 5 / 10 = 35, of it 22; the whole stake of 66
        int returned = 228 + 92 + 66;
        int laid = 140 + 10;
        int won = Check.ZERO + 306 - returned - 70 + laid;
        all(book, new int[] {6, 5, 3, 3, 306, 70, returned, laid, 1, 2, 1274, won, won, 6});
        book.undo();
        all(book, new int[] {6, 5, 3, 3, 306, 70, 0, 0, 0, 2, 1274, 0, 0, 5});
        for (int what : new int[] {-1, 14, Integer.MIN_VALUE, Integer.MAX_VALUE}) {
            Check.refused("count(" + what + ")", book, Check.ARGUMENT, () -> book.count(what));
        }
        FieldBook empty = Check.field(1, 1, 20);
        Check.settled(empty, "a");
        all(empty, new int[] {1, 1, 0, 0, 0, 0, 0, 0, 1, 0, 952, Check.ZERO, Check.ZERO, 2});
        Check.end();
    }

    private static void all(FieldBook book, int[] want) {
        for (int what = 0; what < want.length; what++) {
            int asked = what;
            Check.looks("count(" + what + ")", book, want[what], () -> book.count(asked));
        }
    }
}
