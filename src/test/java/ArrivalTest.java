/** Promises 7 and 20, and what the Terms say of arrivals: settle, ifArrived. */
public final class ArrivalTest {
    public static void main(String[] args) {
        winners();
        deadHeatsToWin();
        placesByTheField();
        placesOfGroups();
        deadHeatsForPlaces();
        cutsOfWinnings();
        thePartForAPlace();
        withdrawnHorses();
        laidOffReturns();
        nothingReturned();
        aSinglePenny();
        belowZero();
        buffersThatTellNothing();
        settleRefused();
        settleClears();
        Check.end();
    }

    private static void returned(String what, FieldBook book, int bet, int pence, int reason) {
        Check.due(what + ": returned", book.bet(bet, 6), pence);
        Check.due(what + ": reason", book.bet(bet, 7), reason);
    }

    private static void winners() {
        FieldBook book = Check.field(3, 7, 3);
        book.take(0, 100, false);
        book.take(1, 50, false);
        Check.due("if a arrived", Check.arrived(book, "a"), Check.ZERO + 150 - 333);
        Check.due("if b arrived", Check.arrived(book, "b>a"), Check.ZERO + 150 - 166);
        Check.due("if c arrived", Check.arrived(book, "c>a>b"), Check.ZERO + 150);
        Check.type(book, "b>a");
        Check.looks("ifArrived", book, Check.ZERO + 150 - 166, () -> book.ifArrived());
        Check.due("it is not settled", book.count(8), 0);
        Check.due("settle b>a", book.settle(), Check.ZERO + 150 - 166);
        returned("the loser", book, 0, 0, 0);
        returned("the winner", book, 1, 166, 2);
        Check.due("ifArrived goes on when settled", Check.arrived(book, "a"), Check.ZERO + 150 - 333);
    }

    private static void deadHeatsToWin() {
        FieldBook book = Check.field(4, 7, 3);
        book.take(0, 101, false);
        book.take(1, 1, false);
        book.take(2, 2, false);
        Check.due("settle a=b", Check.settled(book, "a=b"), Check.ZERO + 104 - (50 + 116));
        returned("half a stake", book, 0, 50 + 116, 2);
        returned("half of 1 is nothing", book, 1, 0, 0);
        returned("untold", book, 2, 0, 0);
        book.undo();
        Check.settled(book, "c=b=a");
        returned("a third", book, 0, 33 + 77, 2);
        returned("a third of 2 is nothing", book, 2, 0, 0);
        book.undo();
        Check.settled(book, "d>a=b");
        returned("together behind the winner", book, 0, 0, 0);
    }

    /** A bet each way on the horse at each place, in fields of 1 to 10 that run. */
    private static void placesByTheField() {
        int[] places = {0, 0, 0, 0, 0, 2, 2, 2, 3, 3, 3};
        for (int field = 1; field <= 10; field++) {
            FieldBook book = Check.field(field, 10, 1);
            StringBuilder text = new StringBuilder();
            for (int horse = 0; horse < field; horse++) {
                book.take(horse, 100, true);
                text.append(horse == 0 ? "" : ">").append((char) ('a' + horse));
            }
            Check.due("places of " + field, book.count(9), places[field]);
            Check.settled(book, text.toString());
            for (int horse = 0; horse < field; horse++) {
                boolean placed = horse < places[field];
                int place = places[field] == 0 ? 100 : placed ? 300 : 0;
                int reason = horse == 0 ? 2 : places[field] == 0 ? 4 : placed ? 3 : 0;
                returned("horse " + horse + " of " + field, book, horse, place + (horse == 0 ? 1100 : 0), reason);
            }
        }
        FieldBook fewer = Check.field(8, 10, 1);
        Check.due("8 run", fewer.count(9), 3);
        fewer.withdraw(3);
        Check.due("7 run", fewer.count(9), 2);
        fewer.withdraw(0);
        fewer.withdraw(1);
        Check.due("5 run", fewer.count(9), 2);
        fewer.withdraw(7);
        Check.due("4 run", fewer.count(9), 0);
    }

    /** What a group returns for a place: all, a part or none of its places may be within those of the field. */
    private static void placesOfGroups() {
        FieldBook book = Check.field(8, 10, 1);
        for (int horse = 0; horse < 8; horse++) {
            book.take(horse, 100, true);
        }
        Check.settled(book, "a>b>c=d>e");
        returned("one of two places counts", book, 2, 50 + 100, 3);
        returned("the other of the group", book, 3, 50 + 100, 3);
        returned("behind the group", book, 4, 0, 0);
        returned("untold", book, 5, 0, 0);
        book.undo();
        Check.settled(book, "a>b=c=d=e");
        returned("two of four places count", book, 4, 50 + 100, 3);
        book.undo();
        Check.settled(book, "a=b>c=d=e");
        returned("two win together: to win and for a place", book, 0, 50 + 500 + 100 + 200, 2);
        returned("one of three places counts", book, 4, 33 + 66, 3);
        book.undo();
        Check.settled(book, "a=b=c>d");
        returned("three win together", book, 2, 33 + 330 + 100 + 200, 2);
        returned("the fourth place", book, 3, 0, 0);
        book.undo();
        Check.settled(book, "a=b=c=d=e=f=g=h");
        returned("all together", book, 7, 12 + 120 + 37 + 74, 2);
    }

    private static void deadHeatsForPlaces() {
        FieldBook book = Check.field(5, 9, 2);
        book.take(2, 1, true);
        book.take(0, 1, true);
        book.take(1, 3, true);
        Check.settled(book, "a=d=e>c>b");
        returned("no place is left", book, 0, 0, 0);
        returned("2 of 3 places of a stake of 1 are nothing", book, 1, 0, 0);
        book.undo();
        Check.settled(book, "d>b=c>a");
        returned("half a stake of 1 is nothing", book, 0, 0, 0);
        returned("half a stake of 3, without winnings", book, 2, 1, 3);
        book.undo();
        Check.settled(book, "a=b>c");
        returned("nothing to win, but a place", book, 1, 1, 3);
        returned("to win and a place", book, 2, 1 + 4 + 3 + 2, 2);
    }

    private static void cutsOfWinnings() {
        FieldBook book = Check.field(8, 3, 1);
        book.price(0, 7, 3);
        book.take(0, 101, true);
        book.take(1, 99, true);
        book.withdraw(7);
        book.take(0, 101, true);
        Check.due("7 run", book.count(9), 2);
        Check.settled(book, "a>b");
        // 101 * 7 / 3 = 235, of it 75 of 100 = 176; 101 * 7 / 15 = 47, of it 75 of 100 = 35
        returned("with a cut", book, 0, 101 + 176 + 101 + 35, 2);
        // 99 * 3 / 5 = 59, of it 75 of 100 = 44
        returned("a place with a cut", book, 1, 99 + 44, 3);
        returned("without a cut", book, 2, 101 + 235 + 101 + 47, 2);
        FieldBook many = Check.field(7, 1, 3);
        many.take(0, 200, true);
        many.withdraw(6);
        many.withdraw(5);
        Check.settled(many, "a");
        // 200 / 3 = 66, of it 10 of 100 = 6; 200 / 15 = 13, of it 10 of 100 = 1
        returned("with cuts of 90", many, 0, 200 + 6 + 200 + 1, 2);
    }

    private static void thePartForAPlace() {
        FieldBook book = Check.field(5, 7, 2);
        book.take(1, 100, true);
        Check.due("a fifth", Check.arrived(book, "a>b"), Check.ZERO + 200 - (100 + 70));
        book.set(0, 4);
        Check.due("a fourth", Check.arrived(book, "a>b"), Check.ZERO + 200 - (100 + 87));
        Check.settled(book, "a>b");
        returned("settled with a fourth", book, 0, 187, 3);
    }

    private static void withdrawnHorses() {
        FieldBook book = Check.field(4, 2, 1);
        book.take(0, 100, false);
        book.take(0, 70, true);
        book.layOff(0, 30, 5, 1);
        book.withdraw(0);
        Check.due("all stakes are returned", Check.arrived(book, "b"), Check.ZERO);
        Check.settled(book, "b");
        returned("to win", book, 0, 100, 1);
        returned("each way", book, 1, 140, 1);
        Check.due("laid off", book.laid(0, 4), 30);
    }

    private static void laidOffReturns() {
        FieldBook book = Check.field(6, 2, 1);
        book.layOff(0, 101, 7, 3);
        book.layOff(1, 101, 7, 3);
        book.layOff(0, 1, 100, 1);
        book.withdraw(5);
        Check.due("the winner laid off", Check.arrived(book, "a>b"), Check.ZERO - 203 + 101 + 235 + 101);
        Check.due("two laid off together", Check.arrived(book, "a=b"), Check.ZERO - 203 + 2 * (50 + 116));
        Check.due("nothing for a place", Check.arrived(book, "c>a=b"), Check.ZERO - 203);
        Check.due("settle", Check.settled(book, "a=b"), Check.ZERO - 203 + 332);
        Check.due("returned, without cuts", book.laid(0, 4), 166);
        Check.due("returned to the other", book.laid(1, 4), 166);
        Check.due("half of 1 is nothing", book.laid(2, 4), 0);
    }

    private static void nothingReturned() {
        FieldBook book = Check.field(4, 2, 1);
        book.take(1, 60, true);
        book.take(2, 60, false);
        Check.due("no places: the stake", Check.settled(book, "a>b"), Check.ZERO + 60 + 60);
        returned("told", book, 0, 60, 4);
        returned("to win alone", book, 1, 0, 0);
        book.undo();
        Check.settled(book, "a");
        returned("untold, without places", book, 0, 60, 4);
        book.undo();
        Check.settled(book, "b");
        returned("the winner, without places", book, 0, 60 + 120 + 60, 2);
    }

    /** The least that can be returned is something, so it has the reason of what is returned. */
    private static void aSinglePenny() {
        FieldBook book = Check.field(5, 1, 20);
        book.take(0, 1, false);
        book.take(1, 1, true);
        Check.settled(book, "a>b");
        returned("a penny for winning", book, 0, 1, 2);
        returned("a penny for a place", book, 1, 1, 3);
        book.undo();
        book.withdraw(4);
        Check.settled(book, "a>b");
        returned("a penny without places", book, 1, 1, 4);
    }

    private static void belowZero() {
        FieldBook book = Check.field(1, 100, 1);
        for (int i = 0; i < 24; i++) {
            book.take(0, 9999, true);
        }
        int each = 9999 + 999900 - 9999;
        Check.due("ifWon far below 0", book.ifWon(0), Check.ZERO - 24L * each);
        Check.due("settle far below 0", Check.settled(book, "a"), Check.ZERO - 24L * each);
        FieldBook eight = Check.field(8, 100, 1);
        for (int i = 0; i < 24; i++) {
            eight.take(0, 9999, true);
        }
        eight.set(0, 4);
        Check.due("the dearest of all", eight.ifWon(0), Check.ZERO - 24L * (999900 + 249975));
    }

    private static void buffersThatTellNothing() {
        FieldBook book = Check.field(3, 2, 1);
        book.withdraw(2);
        String[] texts = {"", ">", "a>", "a=", "a>a", "a=b>a", "aa", "ab", "d", "a>d", "c", "a>c", "a=b=c", "A", "k",
            "a>b>", "a>>b", "a<b", "a>b=", "j"};
        for (String text : texts) {
            Check.due("ifArrived of " + text, Check.arrived(book, text), FieldBook.NONE);
            Check.refused("settle of " + text, book, Check.ARGUMENT, () -> book.settle());
        }
        Check.due("ifArrived of a=b", Check.arrived(book, "a=b"), Check.ZERO);
    }

    private static void settleRefused() {
        FieldBook book = Check.field(3, 2, 1);
        Check.settled(book, "a");
        Check.refused("settle an empty buffer again", book, Check.ARGUMENT, () -> book.settle());
        Check.type(book, "d");
        Check.refused("settle with no horse again", book, Check.ARGUMENT, () -> book.settle());
        Check.type(book, "b>a");
        Check.refused("settle again", book, Check.STATE, () -> book.settle());
        Check.due("the buffer stays", book.clearBuffer(), 3);
    }

    private static void settleClears() {
        FieldBook book = Check.field(2, 2, 1);
        Check.due("settle an empty book", Check.settled(book, "b"), Check.ZERO);
        Check.due("the buffer is empty", book.clearBuffer(), 0);
        Check.due("it is settled", book.count(8), 1);
        Check.due("saved states", book.count(13), 3);
        book.undo();
        Check.due("it is not settled after undo", book.count(8), 0);
        Check.due("undo leaves the buffer", book.clearBuffer(), 0);
        Check.type(book, "a>");
        book.horse(1, 1);
        book.undo();
        Check.due("undo leaves a buffer with something", book.clearBuffer(), 2);
    }
}
