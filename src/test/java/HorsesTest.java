/** Promises 1, 2, 3, 6 and 15: a new object, horse, price, withdraw, horseOf. */
public final class HorsesTest {
    public static void main(String[] args) {
        aNewObject();
        horses();
        horsesRefused();
        prices();
        pricesRefused();
        withdrawals();
        withdrawalsRefused();
        properties();
        propertiesOfAnArrival();
        propertiesRefused();
        Check.end();
    }

    private static void aNewObject() {
        FieldBook book = new FieldBook();
        for (int what = 0; what <= 13; what++) {
            Check.due("count of a new book, " + what, book.count(what), 0);
        }
        Check.due("setting 0 at first", book.setting(0), 5);
        Check.due("setting 1 at first", book.setting(1), 10000);
        Check.due("firstError at first", book.firstError(), 0);
        Check.due("ifArrived at first", book.ifArrived(), FieldBook.NONE);
        Check.due("worst at first", book.worst(), FieldBook.NONE);
        Check.due("safeShare at first", book.safeShare(), 1.0);
        Check.refused("goBack(0) at first", book, Check.STATE, () -> book.goBack(0));
        Check.refused("goBack(1) at first", book, Check.STATE, () -> book.goBack(1));
        Check.refused("undo() at first", book, Check.STATE, () -> book.undo());
        Check.due("clearBuffer at first", book.clearBuffer(), 0);
    }

    private static void horses() {
        FieldBook book = new FieldBook();
        Check.due("horse(1, 1)", book.horse(1, 1), 0);
        Check.due("horse(100, 20)", book.horse(100, 20), 1);
        Check.due("horse(1, 20)", book.horse(1, 20), 2);
        Check.due("horse(100, 1)", book.horse(100, 1), 3);
        Check.due("horses", book.count(0), 4);
        Check.due("a of horse 1", book.horseOf(1, 0), 100);
        Check.due("b of horse 1", book.horseOf(1, 1), 20);
        Check.due("it runs", book.horseOf(1, 2), 1);
        for (int i = 4; i < 10; i++) {
            Check.due("horse " + i, book.horse(2, 1), i);
        }
        Check.refused("an eleventh horse", book, Check.STATE, () -> book.horse(2, 1));
        Check.refused("an eleventh horse out of range", book, Check.ARGUMENT, () -> book.horse(0, 1));
    }

    private static void horsesRefused() {
        FieldBook book = Check.field(2, 3, 1);
        int[][] out = {{0, 1}, {101, 1}, {1, 0}, {1, 21}, {-1, 1}, {1, -1}, {Integer.MIN_VALUE, 1}, {1, Integer.MAX_VALUE}};
        for (int[] price : out) {
            Check.refused("horse(" + price[0] + ", " + price[1] + ")", book, Check.ARGUMENT,
                    () -> book.horse(price[0], price[1]));
        }
        Check.settled(book, "a");
        Check.refused("horse when settled", book, Check.STATE, () -> book.horse(1, 1));
        Check.refused("horse out of range when settled", book, Check.ARGUMENT, () -> book.horse(1, 21));
    }

    private static void prices() {
        FieldBook book = Check.field(2, 3, 1);
        book.take(1, 100, true);
        Check.due("price without bets", book.price(0, 100, 20), 0);
        Check.due("price with a bet", book.price(1, 1, 20), 1);
        book.take(1, 100, false);
        book.layOff(1, 10, 1, 1);
        Check.due("price with two bets and one laid off", book.price(1, 9, 2), 2);
        Check.due("a", book.horseOf(1, 0), 9);
        Check.due("b", book.horseOf(1, 1), 2);
        Check.due("the first bet keeps a", book.bet(0, 3), 3);
        Check.due("the first bet keeps b", book.bet(0, 4), 1);
        Check.due("the second bet keeps a", book.bet(1, 3), 1);
        Check.due("the second bet keeps b", book.bet(1, 4), 20);
        Check.due("saved states", book.count(13), 6);
    }

    private static void pricesRefused() {
        FieldBook book = Check.field(2, 3, 1);
        for (int horse : new int[] {-1, 2, 10, Integer.MIN_VALUE, Integer.MAX_VALUE}) {
            Check.refused("price of no horse", book, Check.INDEX, () -> book.price(horse, 1, 1));
            Check.refused("price of no horse, out of range", book, Check.INDEX, () -> book.price(horse, 0, 1));
        }
        int[][] out = {{0, 1}, {101, 1}, {1, 0}, {1, 21}};
        for (int[] price : out) {
            Check.refused("price out of range", book, Check.ARGUMENT, () -> book.price(0, price[0], price[1]));
        }
        book.withdraw(1);
        Check.refused("price of a withdrawn horse", book, Check.STATE, () -> book.price(1, 1, 1));
        Check.refused("price of a withdrawn horse, out of range", book, Check.ARGUMENT, () -> book.price(1, 1, 0));
        Check.settled(book, "a");
        Check.refused("price when settled", book, Check.STATE, () -> book.price(0, 1, 1));
        Check.refused("price out of range when settled", book, Check.ARGUMENT, () -> book.price(0, 0, 1));
        Check.refused("price of no horse when settled", book, Check.INDEX, () -> book.price(2, 1, 1));
    }

    private static void withdrawals() {
        FieldBook book = new FieldBook();
        book.horse(3, 1);
        book.horse(1, 3);
        book.horse(1, 20);
        book.horse(7, 2);
        book.horse(6, 19);
        book.horse(100, 1);
        book.take(0, 50, false);
        Check.due("cut of 3 to 1", book.withdraw(0), 25);
        Check.due("a bet on the horse itself is cut, too", book.bet(0, 5), 25);
        book.take(3, 10, true);
        Check.due("cut of 7 to 2", book.withdraw(3), 22);
        Check.due("the first bet's cuts", book.bet(0, 5), 47);
        Check.due("the second bet's cuts", book.bet(1, 5), 22);
        Check.due("cut of 1 to 3", book.withdraw(1), 75);
        Check.due("cuts are at most 90", book.bet(0, 5), 90);
        Check.due("cuts are at most 90, again", book.bet(1, 5), 90);
        book.take(5, 10, false);
        Check.due("cut of 1 to 20 is at most 75", book.withdraw(2), 75);
        Check.due("cut of 6 to 19 is at most 75", book.withdraw(4), 75);
        Check.due("cuts of 75 and 75", book.bet(2, 5), 90);
        Check.due("cut of 100 to 1", book.withdraw(5), 0);
        Check.due("cuts stay", book.bet(2, 5), 90);
        Check.due("none runs", book.count(1), 0);
        Check.due("horses", book.count(0), 6);
        FieldBook later = Check.field(3, 3, 1);
        later.price(0, 1, 1);
        Check.due("the cut is by the price then", later.withdraw(0), 50);
        later.take(1, 5, false);
        Check.due("a later bet has no cuts", later.bet(0, 5), 0);
        later.undo();
        later.undo();
        Check.due("it runs again", later.horseOf(0, 2), 1);
        Check.due("without a cut", later.horseOf(0, 3), 0);
    }

    private static void withdrawalsRefused() {
        FieldBook book = Check.field(2, 3, 1);
        for (int horse : new int[] {-1, 2, Integer.MIN_VALUE, Integer.MAX_VALUE}) {
            Check.refused("withdraw no horse", book, Check.INDEX, () -> book.withdraw(horse));
        }
        book.withdraw(1);
        Check.refused("withdraw again", book, Check.STATE, () -> book.withdraw(1));
        Check.settled(book, "a");
        Check.refused("withdraw when settled", book, Check.STATE, () -> book.withdraw(0));
        Check.refused("withdraw no horse when settled", book, Check.INDEX, () -> book.withdraw(2));
    }

    private static void properties() {
        FieldBook book = new FieldBook();
        book.horse(4, 3);
        book.horse(9, 2);
        book.take(0, 100, false);
        book.take(0, 30, true);
        book.take(1, 7, true);
        book.layOff(0, 1000, 2, 1);
        int[] want = {4, 3, 1, 0, 2, 130, 30, -1, -1};
        for (int what = 0; what <= 8; what++) {
            int asked = what;
            Check.looks("horseOf(0, " + what + ")", book, want[what], () -> book.horseOf(0, asked));
        }
        book.withdraw(0);
        want[2] = 0;
        want[3] = 42;
        for (int what = 0; what <= 8; what++) {
            Check.due("horseOf(0, " + what + ") when withdrawn", book.horseOf(0, what), want[what]);
        }
        Check.due("bets on the other", book.horseOf(1, 4), 1);
        Check.due("stakes on the other to win", book.horseOf(1, 5), 7);
        Check.due("stakes on the other for a place", book.horseOf(1, 6), 7);
    }

    private static void propertiesOfAnArrival() {
        FieldBook book = Check.field(7, 2, 1);
        book.withdraw(6);
        Check.settled(book, "c=a>b>f=e");
        int[] places = {1, 3, 1, -1, 4, 4, -1};
        int[] groups = {2, 1, 2, -1, 2, 2, -1};
        for (int horse = 0; horse < 7; horse++) {
            Check.due("first place of " + horse, book.horseOf(horse, 7), places[horse]);
            Check.due("group of " + horse, book.horseOf(horse, 8), groups[horse]);
        }
        book.undo();
        Check.due("first place after undo", book.horseOf(0, 7), FieldBook.NONE);
        Check.due("group after undo", book.horseOf(0, 8), FieldBook.NONE);
        FieldBook three = Check.field(3, 2, 1);
        Check.settled(three, "a=b=c");
        Check.due("first place of three together", three.horseOf(1, 7), 1);
        Check.due("group of three together", three.horseOf(2, 8), 3);
    }

    private static void propertiesRefused() {
        FieldBook book = Check.field(2, 3, 1);
        for (int horse : new int[] {-1, 2, Integer.MIN_VALUE, Integer.MAX_VALUE}) {
            Check.refused("horseOf no horse", book, Check.INDEX, () -> book.horseOf(horse, 0));
            Check.refused("horseOf no horse and no property", book, Check.INDEX, () -> book.horseOf(horse, 9));
        }
        for (int what : new int[] {-1, 9, Integer.MIN_VALUE, Integer.MAX_VALUE}) {
            Check.refused("horseOf(0, " + what + ")", book, Check.ARGUMENT, () -> book.horseOf(0, what));
        }
    }
}
