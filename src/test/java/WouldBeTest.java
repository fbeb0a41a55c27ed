/** Promises 21 to 24: ifWon, worst, cover, safeShare. */
public final class WouldBeTest {
    public static void main(String[] args) {
        ifWon();
        ifWonOrder();
        worst();
        cover();
        coverByRounding();
        safeShare();
        whenSettled();
        Check.end();
    }

    private static void ifWon() {
        FieldBook book = Check.field(3, 4, 1);
        book.take(0, 100, false);
        book.layOff(0, 20, 3, 1);
        Check.looks("ifWon(0)", book, Check.ZERO + 100 - 500 - 20 + 80, () -> book.ifWon(0));
        Check.looks("ifWon(1)", book, Check.ZERO + 100 - 20, () -> book.ifWon(1));
        book.withdraw(2);
        Check.looks("ifWon of a withdrawn horse", book, FieldBook.NONE, () -> book.ifWon(2));
        for (int horse : new int[] {-1, 3, Integer.MIN_VALUE, Integer.MAX_VALUE}) {
            Check.refused("ifWon(" + horse + ")", book, Check.INDEX, () -> book.ifWon(horse));
            Check.refused("cover(" + horse + ")", book, Check.INDEX, () -> book.cover(horse));
        }
        Check.type(book, "b>a");
        Check.due("ifWon without regard to the buffer", book.ifWon(0), Check.ZERO + 100 - 420 - 20 + 80);
    }

    /** The others arrive by ascending numbers, so those ahead have the places. */
    private static void ifWonOrder() {
        FieldBook book = Check.field(9, 10, 1);
        for (int horse = 0; horse < 9; horse++) {
            book.take(horse, 1 << horse, true);
        }
        int stakes = 2 * 511;
        Check.due("ifWon(0)", book.ifWon(0), Check.ZERO + stakes - 11 - 3 * (1 + 2 + 4));
        Check.due("ifWon(8)", book.ifWon(8), Check.ZERO + stakes - 11 * 256 - 3 * (256 + 1 + 2));
        Check.due("ifWon(1)", book.ifWon(1), Check.ZERO + stakes - 11 * 2 - 3 * (2 + 1 + 4));
        book.withdraw(0);
        // the cut is 9: of 2560 it leaves 2329, of 512 465, of 4 3, of 8 7
        Check.due("ifWon(8) without 0", book.ifWon(8), Check.ZERO + stakes - 2
                - (256 + 2329) - (256 + 465) - (2 + 3) - (4 + 7));
    }

    private static void worst() {
        FieldBook book = Check.field(4, 4, 1);
        Check.due("worst of the same", book.worst(), 0);
        book.take(2, 10, false);
        Check.looks("worst", book, 2, () -> book.worst());
        book.take(1, 10, false);
        Check.due("worst of two alike", book.worst(), 1);
        book.take(3, 11, false);
        Check.due("worst at last", book.worst(), 3);
        book.withdraw(3);
        Check.due("a withdrawn horse is not the worst", book.worst(), 1);
        book.layOff(1, 1, 4, 1);
        Check.due("what is laid off counts", book.worst(), 2);
        book.withdraw(0);
        book.withdraw(1);
        Check.due("the last that runs", book.worst(), 2);
        book.withdraw(2);
        Check.due("worst without horses that run", book.worst(), FieldBook.NONE);
        FieldBook rich = Check.field(2, 100, 1);
        rich.take(0, 9999, false);
        rich.withdraw(0);
        Check.due("the first is withdrawn", rich.worst(), 1);
    }

    private static void cover() {
        FieldBook book = Check.field(3, 4, 1);
        book.set(1, 0);
        book.take(0, 100, false);
        Check.looks("cover(0)", book, 100, () -> book.cover(0));
        Check.looks("cover(1)", book, 0, () -> book.cover(1));
        book.set(1, 1);
        Check.due("a loss of 1 is borne", book.cover(0), 100);
        book.set(1, 4);
        Check.due("a loss of 4 is borne", book.cover(0), 99);
        book.set(1, 399);
        Check.due("a loss of 399 is borne", book.cover(0), 1);
        book.set(1, 400);
        Check.due("a loss of 400 is borne", book.cover(0), 0);
        book.set(1, 0);
        book.price(0, 1, 1);
        Check.due("by the price of now", book.cover(0), 400);
        for (int i = 0; i < 6; i++) {
            book.layOff(1, 1, 1, 1);
        }
        Check.due("there may be 6 already", book.cover(0), 406);
        book.withdraw(0);
        Check.looks("cover of a withdrawn horse", book, FieldBook.NONE, () -> book.cover(0));
        FieldBook edge = Check.field(1, 100, 1);
        edge.set(1, 0);
        edge.take(0, 9999, false);
        Check.due("a stake of 9999", edge.cover(0), 9999);
        edge.take(0, 1, false);
        Check.due("a stake of 10000", edge.cover(0), FieldBook.NONE);
        edge.set(1, 100);
        Check.due("a stake of 9999, with a loss that is borne", edge.cover(0), 9999);
    }

    private static void coverByRounding() {
        int[][] prices = {{7, 3}, {1, 20}, {100, 20}, {3, 7}, {100, 1}, {19, 20}};
        for (int[] price : prices) {
            FieldBook book = Check.field(1, 7, 2);
            book.set(1, 13);
            book.take(0, 57, false);
            book.price(0, price[0], price[1]);
            int lacking = Check.ZERO - 13 - book.ifWon(0);
            int stake = 0;
            while (stake * price[0] / price[1] < lacking) {
                stake++;
            }
            Check.due("cover at " + price[0] + " to " + price[1], book.cover(0), stake);
        }
    }

    private static void safeShare() {
        FieldBook book = Check.field(4, 10, 1);
        Check.due("safeShare without bets", book.safeShare(), 1.0);
        book.set(1, 999);
        book.take(1, 100, false);
        Check.due("a loss of 1000", book.safeShare(), 0.75);
        long before = book.digest();
        book.safeShare();
        Check.due("digest after safeShare", book.digest(), before);
        book.set(1, 1000);
        Check.due("a loss of 1000 that is borne", book.safeShare(), 1.0);
        book.set(1, 0);
        book.withdraw(3);
        Check.due("two of three", book.safeShare(), 2.0 / 3.0);
        book.withdraw(1);
        Check.due("two of two", book.safeShare(), 1.0);
        book.withdraw(0);
        book.withdraw(2);
        Check.due("without horses that run", book.safeShare(), 1.0);
        FieldBook none = Check.field(1, 10, 1);
        none.set(1, 0);
        none.take(0, 1, false);
        Check.due("none is borne", none.safeShare(), 0.0);
    }

    private static void whenSettled() {
        FieldBook book = Check.field(2, 4, 1);
        book.set(1, 0);
        book.take(0, 100, false);
        Check.settled(book, "b");
        Check.due("ifWon when settled", book.ifWon(0), Check.ZERO - 400);
        Check.due("worst when settled", book.worst(), 0);
        Check.due("cover when settled", book.cover(0), 100);
        Check.due("safeShare when settled", book.safeShare(), 0.5);
    }
}
