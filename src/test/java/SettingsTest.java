/** Promises 8 and 19: set, setting. */
public final class SettingsTest {
    public static void main(String[] args) {
        FieldBook book = Check.field(1, 1, 1);
        Check.due("set(0, 4)", book.set(0, 4), 5);
        Check.due("set(0, 4) again", book.set(0, 4), 4);
        Check.due("set(0, 5)", book.set(0, 5), 4);
        Check.due("set(1, 0)", book.set(1, 0), 10000);
        Check.due("saved states", book.count(13), 5);
        Check.due("set(1, 99999)", book.set(1, 99999), 0);
        Check.due("set(1, 7)", book.set(1, 7), 99999);
        Check.looks("setting(0)", book, 5, () -> book.setting(0));
        Check.looks("setting(1)", book, 7, () -> book.setting(1));
        book.undo();
        Check.due("setting(1) after undo", book.setting(1), 99999);
        for (int setting : new int[] {-1, 2, Integer.MIN_VALUE, Integer.MAX_VALUE}) {
            Check.refused("set(" + setting + ", 4)", book, Check.INDEX, () -> book.set(setting, 4));
            Check.refused("set(" + setting + ", -1)", book, Check.INDEX, () -> book.set(setting, -1));
            Check.refused("setting(" + setting + ")", book, Check.INDEX, () -> book.setting(setting));
        }
        for (int value : new int[] {3, 6, 0, -5, Integer.MIN_VALUE, Integer.MAX_VALUE}) {
            Check.refused("set(0, " + value + ")", book, Check.ARGUMENT, () -> book.set(0, value));
        }
        for (int value : new int[] {-1, 100000, Integer.MIN_VALUE, Integer.MAX_VALUE}) {
            Check.refused("set(1, " + value + ")", book, Check.ARGUMENT, () -> book.set(1, value));
        }
        Check.settled(book, "a");
        Check.refused("set when settled", book, Check.STATE, () -> book.set(0, 5));
        Check.refused("set out of range when settled", book, Check.ARGUMENT, () -> book.set(0, 3));
        Check.refused("set no setting when settled", book, Check.INDEX, () -> book.set(2, 5));
        Check.due("setting(1) when settled", book.setting(1), 99999);
        Check.end();
    }
}
