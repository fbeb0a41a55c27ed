/** Promises 12, 13 and 14: keep, goBack, undo. */
public final class SavedTest {
    public static void main(String[] args) {
        keeps();
        goesBack();
        goesBackWhenSettled();
        undoes();
        atMostSix();
        alsoWithoutAChange();
        refused();
        Check.end();
    }

    private static void keeps() {
        FieldBook book = Check.field(1, 1, 1);
        Check.due("keep without bets", book.keep(0), 0);
        book.take(0, 5, false);
        Check.due("keep with a bet", book.keep(1), 1);
        Check.due("keep is not undoable", book.count(13), 2);
        Check.due("goBack(0)", book.goBack(0), 0);
        Check.due("goBack(1)", book.goBack(1), 1);
        book.take(0, 6, true);
        Check.due("keep in place of the one before", book.keep(0), 2);
        book.undo();
        Check.due("goBack to the new one", book.goBack(0), 2);
        Check.due("its stakes", book.count(4), 5 + 12);
        Check.due("the other stays", book.goBack(1), 1);
    }

    private static void goesBack() {
        FieldBook book = Check.field(3, 3, 1);
        book.take(0, 100, true);
        book.layOff(1, 10, 4, 3);
        book.set(1, 77);
        book.keep(1);
        book.horse(9, 1);
        book.price(0, 8, 7);
        book.take(2, 50, false);
        book.withdraw(0);
        book.layOff(2, 20, 1, 1);
        book.set(0, 4);
        book.set(1, 0);
        Check.type(book, "b>c");
        Check.due("goBack(1)", book.goBack(1), 1);
        Check.due("horses", book.count(0), 3);
        Check.due("horses that run", book.count(1), 3);
        Check.due("price", book.horseOf(0, 0), 3);
        Check.due("cut", book.horseOf(0, 3), 0);
        Check.due("cuts", book.bet(0, 5), 0);
        Check.due("bets laid off", book.count(3), 1);
        Check.due("setting 0", book.setting(0), 5);
        Check.due("setting 1", book.setting(1), 77);
        Check.due("saved states stay, with one more", book.count(13), 6);
        Check.due("the buffer stays", book.ifArrived(), Check.ZERO + 200 - 100 - 10 + 23);
        book.undo();
        Check.due("undo of goBack", book.count(2), 2);
        Check.due("undo of goBack: setting 0", book.setting(0), 4);
        Check.due("the snapshot stays", book.goBack(1), 1);
        book.take(0, 1, false);
        Check.due("and is not what goes on", book.goBack(1), 1);
        Check.refused("goBack(0)", book, Check.STATE, () -> book.goBack(0));
    }

    private static void goesBackWhenSettled() {
        FieldBook book = Check.field(2, 3, 1);
        book.take(0, 100, false);
        book.keep(0);
        Check.settled(book, "a");
        Check.due("keep when settled", book.keep(1), 1);
        Check.due("goBack when settled", book.goBack(0), 1);
        Check.due("it is not settled then", book.count(8), 0);
        Check.due("nothing is returned then", book.bet(0, 6), FieldBook.NONE);
        Check.due("nor why", book.bet(0, 7), FieldBook.NONE);
        Check.due("take goes on", book.take(1, 3, false), 1);
        Check.due("goBack to the settled one", book.goBack(1), 1);
        Check.due("it is settled then", book.count(8), 1);
        Check.due("what it returned", book.bet(0, 6), 400);
        Check.due("its place", book.horseOf(0, 7), 1);
    }

    private static void undoes() {
        FieldBook book = new FieldBook();
        book.horse(3, 1);
        book.horse(4, 1);
        book.take(0, 100, true);
        book.layOff(0, 9, 1, 1);
        book.withdraw(1);
        Check.settled(book, "a");
        Check.due("saved states", book.count(13), 6);
        Check.due("undo of settle", book.undo(), 5);
        Check.due("what it returned", book.bet(0, 6), FieldBook.NONE);
        Check.due("what was laid off returned", book.laid(0, 4), FieldBook.NONE);
        Check.due("undo of withdraw", book.undo(), 4);
        Check.due("cuts", book.bet(0, 5), 0);
        Check.due("it runs", book.horseOf(1, 2), 1);
        Check.due("undo of layOff", book.undo(), 3);
        Check.due("bets laid off", book.count(3), 0);
        Check.due("undo of take", book.undo(), 2);
        Check.due("bets", book.count(2), 0);
        Check.due("bets on the horse", book.horseOf(0, 4), 0);
        Check.due("stakes on the horse", book.horseOf(0, 5), 0);
        Check.due("stakes for a place", book.horseOf(0, 6), 0);
        Check.due("undo of horse", book.undo(), 1);
        Check.due("horses", book.count(0), 1);
        Check.due("a new horse", book.horse(9, 2), 1);
        Check.due("its price", book.horseOf(1, 0), 9);
        Check.due("its bets", book.horseOf(1, 4), 0);
        Check.due("saved states then", book.count(13), 2);
        book.keep(0);
        Check.due("undo of the new one", book.undo(), 1);
        Check.due("undo of the first", book.undo(), 0);
        Check.refused("undo of nothing", book, Check.STATE, () -> book.undo());
        Check.due("undo leaves the slots", book.goBack(0), 0);
        Check.due("horses of the slot", book.count(0), 2);
    }

    private static void atMostSix() {
        FieldBook book = Check.field(1, 1, 1);
        for (int value = 1; value <= 20; value++) {
            book.set(1, value);
            Check.due("saved states after " + value, book.count(13), Math.min(6, value + 1));
        }
        for (int left = 5; left >= 0; left--) {
            Check.due("undo", book.undo(), left);
            Check.due("setting 1 then", book.setting(1), 14 + left);
        }
        Check.refused("undo of the seventh", book, Check.STATE, () -> book.undo());
        Check.due("setting 1 at last", book.setting(1), 14);
        book.set(1, 50);
        Check.due("undo after all", book.undo(), 0);
        Check.due("setting 1 after all", book.setting(1), 14);
    }

    private static void alsoWithoutAChange() {
        FieldBook book = Check.field(1, 1, 1);
        book.set(1, 10000);
        Check.due("set to the same", book.count(13), 2);
        book.price(0, 1, 1);
        Check.due("price to the same", book.count(13), 3);
        book.keep(1);
        book.goBack(1);
        Check.due("goBack to the same", book.count(13), 4);
    }

    private static void refused() {
        FieldBook book = Check.field(1, 1, 1);
        for (int slot : new int[] {-1, 2, Integer.MIN_VALUE, Integer.MAX_VALUE}) {
            Check.refused("keep(" + slot + ")", book, Check.ARGUMENT, () -> book.keep(slot));
            Check.refused("goBack(" + slot + ")", book, Check.ARGUMENT, () -> book.goBack(slot));
        }
        Check.refused("goBack(0)", book, Check.STATE, () -> book.goBack(0));
        book.keep(1);
        Check.refused("goBack(0), with the other full", book, Check.STATE, () -> book.goBack(0));
        book.undo();
        Check.refused("undo()", book, Check.STATE, () -> book.undo());
    }
}
