/** Promises 4, 5, 16 and 17: take, layOff, bet, laid. */
public final class BetsTest {
    public static void main(String[] args) {
        bets();
        betsRefused();
        laidOff();
        laidOffRefused();
        propertiesOfBets();
        propertiesRefused();
        Check.end();
    }

    private static void bets() {
        FieldBook book = Check.field(2, 7, 2);
        Check.due("take(0, 1, false)", book.take(0, 1, false), 0);
        Check.due("take(1, 9999, true)", book.take(1, 9999, true), 1);
        Check.due("bets", book.count(2), 2);
        Check.due("saved states", book.count(13), 4);
        for (int i = 2; i < 24; i++) {
            Check.due("bet " + i, book.take(0, i, false), i);
        }
        Check.refused("a bet too many", book, Check.STATE, () -> book.take(0, 1, false));
        Check.refused("a bet too many, out of range", book, Check.ARGUMENT, () -> book.take(0, 0, false));
        Check.refused("a bet too many, on no horse", book, Check.INDEX, () -> book.take(2, 0, false));
        Check.due("layOff is another room", book.layOff(0, 1, 1, 1), 0);
    }

    private static void betsRefused() {
        FieldBook book = Check.field(2, 7, 2);
        for (int horse : new int[] {-1, 2, Integer.MIN_VALUE, Integer.MAX_VALUE}) {
            Check.refused("take on no horse", book, Check.INDEX, () -> book.take(horse, 1, true));
            Check.refused("take on no horse, out of range", book, Check.INDEX, () -> book.take(horse, 0, true));
        }
        for (int stake : new int[] {0, 10000, -1, Integer.MIN_VALUE, Integer.MAX_VALUE}) {
            Check.refused("take(0, " + stake + ")", book, Check.ARGUMENT, () -> book.take(0, stake, true));
        }
        book.withdraw(1);
        Check.refused("take on a withdrawn horse", book, Check.STATE, () -> book.take(1, 1, false));
        Check.refused("take on a withdrawn horse, out of range", book, Check.ARGUMENT, () -> book.take(1, 10000, false));
        Check.settled(book, "a");
        Check.refused("take when settled", book, Check.STATE, () -> book.take(0, 1, false));
        Check.refused("take out of range when settled", book, Check.ARGUMENT, () -> book.take(0, 0, false));
        Check.refused("take on no horse when settled", book, Check.INDEX, () -> book.take(2, 1, false));
    }

    private static void laidOff() {
        FieldBook book = Check.field(2, 7, 2);
        Check.due("layOff(1, 1, 100, 20)", book.layOff(1, 1, 100, 20), 0);
        Check.due("layOff(0, 9999, 1, 1)", book.layOff(0, 9999, 1, 1), 1);
        int[][] want = {{1, 1, 100, 20, -1}, {0, 9999, 1, 1, -1}};
        for (int bet = 0; bet < 2; bet++) {
            for (int what = 0; what <= 4; what++) {
                int askedBet = bet;
                int asked = what;
                Check.looks("laid(" + bet + ", " + what + ")", book, want[bet][what], () -> book.laid(askedBet, asked));
            }
        }
        Check.due("bets laid off", book.count(3), 2);
        Check.due("stakes laid off", book.count(5), 10000);
        Check.due("no bet on the horse", book.horseOf(0, 4), 0);
        Check.due("no stakes on the horse", book.horseOf(0, 5), 0);
        Check.due("saved states", book.count(13), 4);
        for (int i = 2; i < 6; i++) {
            Check.due("laid off " + i, book.layOff(0, 1, 1, 1), i);
        }
        Check.refused("one laid off too many", book, Check.STATE, () -> book.layOff(0, 1, 1, 1));
        Check.refused("one too many, out of range", book, Check.ARGUMENT, () -> book.layOff(0, 1, 1, 0));
        Check.due("take is another room", book.take(0, 1, false), 0);
    }

    private static void laidOffRefused() {
        FieldBook book = Check.field(2, 7, 2);
        for (int horse : new int[] {-1, 2, Integer.MIN_VALUE, Integer.MAX_VALUE}) {
            Check.refused("layOff on no horse", book, Check.INDEX, () -> book.layOff(horse, 1, 1, 1));
            Check.refused("layOff on no horse, out of range", book, Check.INDEX, () -> book.layOff(horse, 0, 0, 0));
        }
        int[][] out = {{0, 1, 1}, {10000, 1, 1}, {1, 0, 1}, {1, 101, 1}, {1, 1, 0}, {1, 1, 21},
            {Integer.MIN_VALUE, 1, 1}, {1, Integer.MAX_VALUE, 1}, {1, 1, Integer.MIN_VALUE}};
        for (int[] bet : out) {
            Check.refused("layOff(0, " + bet[0] + ", " + bet[1] + ", " + bet[2] + ")", book, Check.ARGUMENT,
                    () -> book.layOff(0, bet[0], bet[1], bet[2]));
        }
        book.withdraw(1);
        Check.refused("layOff on a withdrawn horse", book, Check.STATE, () -> book.layOff(1, 1, 1, 1));
        Check.refused("layOff on a withdrawn horse, out of range", book, Check.ARGUMENT, () -> book.layOff(1, 1, 1, 21));
        Check.settled(book, "a");
        Check.refused("layOff when settled", book, Check.STATE, () -> book.layOff(0, 1, 1, 1));
        Check.refused("layOff out of range when settled", book, Check.ARGUMENT, () -> book.layOff(0, 0, 1, 1));
        Check.refused("layOff on no horse when settled", book, Check.INDEX, () -> book.layOff(2, 1, 1, 1));
    }

    private static void propertiesOfBets() {
        FieldBook book = new FieldBook();
        book.horse(7, 2);
        book.horse(13, 4);
        book.horse(3, 1);
        book.take(1, 250, true);
        book.take(0, 80, false);
        book.withdraw(2);
        int[][] want = {{1, 250, 1, 13, 4, 25, -1, -1}, {0, 80, 0, 7, 2, 25, -1, -1}};
        for (int bet = 0; bet < 2; bet++) {
            for (int what = 0; what <= 7; what++) {
                int askedBet = bet;
                int asked = what;
                Check.looks("bet(" + bet + ", " + what + ")", book, want[bet][what], () -> book.bet(askedBet, asked));
            }
        }
        Check.settled(book, "a>b");
        want[0][6] = 250;
        want[0][7] = 4;
        want[1][6] = 80 + 210;
        want[1][7] = 2;
        for (int bet = 0; bet < 2; bet++) {
            for (int what = 0; what <= 7; what++) {
                Check.due("settled bet(" + bet + ", " + what + ")", book.bet(bet, what), want[bet][what]);
            }
        }
    }

    private static void propertiesRefused() {
        FieldBook book = Check.field(2, 7, 2);
        book.take(0, 1, false);
        book.layOff(0, 1, 1, 1);
        for (int bet : new int[] {-1, 1, 24, Integer.MIN_VALUE, Integer.MAX_VALUE}) {
            Check.refused("bet(" + bet + ", 0)", book, Check.INDEX, () -> book.bet(bet, 0));
            Check.refused("bet(" + bet + ", 8)", book, Check.INDEX, () -> book.bet(bet, 8));
            Check.refused("laid(" + bet + ", 0)", book, Check.INDEX, () -> book.laid(bet, 0));
            Check.refused("laid(" + bet + ", 5)", book, Check.INDEX, () -> book.laid(bet, 5));
        }
        for (int what : new int[] {-1, 8, Integer.MIN_VALUE, Integer.MAX_VALUE}) {
            Check.refused("bet(0, " + what + ")", book, Check.ARGUMENT, () -> book.bet(0, what));
        }
        for (int what : new int[] {-1, 5, Integer.MIN_VALUE, Integer.MAX_VALUE}) {
            Check.refused("laid(0, " + what + ")", book, Check.ARGUMENT, () -> book.laid(0, what));
        }
    }
}
