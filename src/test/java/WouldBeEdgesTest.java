import java.math.BigInteger;
import java.util.ArrayList;
import java.util.List;

/** Promises 20 to 25 at their limits: ifArrived, ifWon, worst, cover, safeShare, digest. */
public final class WouldBeEdgesTest {
    private static final String INDEX = " -> throws IndexOutOfBounds";
    private static final String STATE = " -> throws IllegalState";

    public static void main(String[] args) {
        ifArrived();
        ifWon();
        ifWonByPlaces();
        worst();
        coverRange();
        coverAtTheLoss();
        coverMost();
        coverRounded();
        safeShare();
        safeShareAtTheLoss();
        digestOverflows();
        digestOfShares();
        digestOfEachPart();
        Check.end();
    }

    private static void ifArrived() {
        Told.run("ifArrived: NONE in an empty book", "ifArrived -> -1", "type a", "ifArrived -> -1");
        Told.run("ifArrived: NONE if a horse is not there", "2 x horse 2 1", "type c", "ifArrived -> -1", "type a>c",
                "ifArrived -> -1", "horse 2 1", "ifArrived -> 10000000");
        Told.run("ifArrived: NONE if a horse is withdrawn", "2 x horse 2 1", "type a>b", "ifArrived -> 10000000", "withdraw 1",
                "ifArrived -> -1", "undo", "ifArrived -> 10000000");
        Told.run("ifArrived: NONE if all are withdrawn", "horse 2 1", "take 0 5 true", "withdraw 0", "type a", "ifArrived -> -1",
                "clearBuffer", "ifArrived -> -1");
        Told.run("ifArrived: NONE if it is no arrival as a text", "2 x horse 2 1", "ifArrived -> -1", "append 'a'",
                "ifArrived -> 10000000", "append '>'", "ifArrived -> -1", "append 'b'", "ifArrived -> 10000000", "append 'b'",
                "ifArrived -> -1");
        Told.run("ifArrived: the same as settle then tells", "5 x horse 7 3", "take 0 101 true", "take 1 33 true",
                "layOff 1 20 5 2", "type b=a>c", "ifArrived -> 9999868", "settle -> 9999868");
        Told.run("ifArrived: changes nothing, and keeps the buffer", "2 x horse 1 1", "take 0 5 false", "type a",
                "ifArrived -> 9999995", "count 8 -> 0", "bet 0 6 -> -1", "horseOf 0 7 -> -1", "ifArrived -> 9999995",
                "clearBuffer -> 1");
        Told.run("ifArrived: when settled, with another arrival", "2 x horse 1 1", "take 0 5 false", "type a", "settle -> 9999995",
                "ifArrived -> -1", "type b", "ifArrived -> 10000005", "bet 0 6 -> 10", "horseOf 1 7 -> -1", "settle" + STATE);
        Told.run("ifArrived: far below nothing", "horse 100 1", "24 x take 0 9999 false", "type a", "ifArrived -> -13997600");
    }

    private static void ifWon() {
        Told.run("ifWon: there is no such horse", "ifWon 0" + INDEX, "3 x horse 2 1", "ifWon -1" + INDEX, "ifWon 3" + INDEX,
                "ifWon 10" + INDEX, "ifWon min" + INDEX, "ifWon max" + INDEX, "ifWon 2 -> 10000000");
        Told.run("ifWon: NONE if it is withdrawn", "2 x horse 2 1", "withdraw 1", "ifWon 1 -> -1", "ifWon 0 -> 10000000",
                "withdraw 0", "ifWon 0 -> -1", "undo", "undo", "ifWon 1 -> 10000000");
        Told.run("ifWon: one horse alone", "horse 3 1", "take 0 100 true", "layOff 0 10 2 1", "ifWon 0 -> 9999720");
        Told.run("ifWon: the horse with the number 9", "10 x horse 3 1", "take 9 100 false", "ifWon 9 -> 9999700",
                "ifWon 8 -> 10000100", "ifWon 10" + INDEX);
        Told.run("ifWon: whatever is in the buffer", "2 x horse 3 1", "take 0 100 false", "type b>a", "ifWon 0 -> 9999700",
                "type b>", "ifWon 0 -> 9999700", "28 x append 'a'", "ifWon 1 -> 10000100");
        Told.run("ifWon: when settled", "2 x horse 3 1", "take 0 100 false", "type b", "settle -> 10000100",
                "ifWon 0 -> 9999700", "ifWon 1 -> 10000100");
    }

    /** The others that run arrive behind it one after the other, by ascending numbers: the lowest have the places. */
    private static void ifWonByPlaces() {
        String[] each = {"take 0 1 true", "take 1 10 true", "take 2 100 true", "take 3 1000 true"};
        // at 5 to 1 a place returns twice the stake, winning six times more
        Told.run("ifWon: no places for 4", Told.rows(new String[] {"4 x horse 5 1"}, each, new String[] {
            "ifWon 0 -> 10001105", "ifWon 3 -> 9995111"}));
        Told.run("ifWon: 2 places for 5", Told.rows(new String[] {"5 x horse 5 1"}, each, new String[] {
            "ifWon 0 -> 10002194", "ifWon 1 -> 10002140", "ifWon 2 -> 10001420", "ifWon 3 -> 9994220",
            "ifWon 4 -> 10002220"}));
        Told.run("ifWon: 3 places for 8", Told.rows(new String[] {"8 x horse 5 1"}, each, new String[] {
            "ifWon 0 -> 10001994", "ifWon 1 -> 10001940", "ifWon 2 -> 10001400", "ifWon 3 -> 9994200",
            "ifWon 7 -> 10002200"}));
        Told.run("ifWon: a withdrawn horse has no place", Told.rows(new String[] {"6 x horse 5 1"}, each, new String[] {
            "withdraw 0 -> 16", "ifWon 5 -> 10002202", "ifWon 2 -> 10001498"}));
    }

    private static void worst() {
        Told.run("worst: NONE if no horse runs", "worst -> -1", "2 x horse 2 1", "worst -> 0", "withdraw 0", "worst -> 1",
                "withdraw 1", "worst -> -1");
        Told.run("worst: of several the lowest", "3 x horse 2 1", "worst -> 0", "take 1 10 false", "take 2 10 false", "worst -> 1",
                "take 2 1 false", "worst -> 2", "take 1 1 false", "worst -> 1", "withdraw 1", "worst -> 2");
        Told.run("worst: by a penny", "2 x horse 1 1", "take 0 100 false", "take 1 100 false", "worst -> 0", "layOff 0 1 1 1",
                "worst -> 1", "layOff 1 1 2 1", "worst -> 0");
        Told.run("worst: the last of ten", "10 x horse 2 1", "take 9 1 false", "worst -> 9");
        Told.run("worst: though with all of them much is won", "2 x horse 1 20", "take 0 19 false", "worst -> 0",
                "take 1 20 false", "worst -> 1", "ifWon 1 -> 10000018", "ifWon 0 -> 10000020");
        Told.run("worst: below nothing, even below -10000000", "2 x horse 100 1", "24 x take 1 9999 false", "worst -> 1",
                "ifWon 1 -> -13997600");
        Told.run("worst: where ifWon answers -1, as NONE does", "2 x horse 100 1", "10 x take 1 9999 false",
                "take 1 10 false", "take 0 1 false", "worst -> 1", "withdraw 1", "worst -> 0");
        Told.run("worst: when settled", "2 x horse 2 1", "take 1 10 false", "type a", "settle", "worst -> 1");
    }

    private static void coverRange() {
        Told.run("cover: there is no such horse", "cover 0" + INDEX, "3 x horse 2 1", "cover -1" + INDEX, "cover 3" + INDEX,
                "cover 10" + INDEX, "cover min" + INDEX, "cover max" + INDEX, "cover 2 -> 0");
        Told.run("cover: NONE if it is withdrawn", "2 x horse 2 1", "set 1 0", "take 0 10 false", "withdraw 0", "cover 0 -> -1",
                "cover 1 -> 0", "undo", "cover 0 -> 10");
        Told.run("cover: there may be 6 already", "horse 2 1", "set 1 0", "take 0 100 false", "cover 0 -> 100",
                "6 x layOff 0 1 2 1", "cover 0 -> 94");
        Told.run("cover: when settled", "2 x horse 2 1", "set 1 0", "take 0 10 false", "type b", "settle", "cover 0 -> 10",
                "cover 1 -> 0");
        Told.run("cover: at its price of now", "horse 4 1", "set 1 0", "take 0 100 false", "cover 0 -> 100", "price 0 100 1",
                "cover 0 -> 4", "price 0 1 20", "cover 0 -> 8000", "price 0 4 1", "cover 0 -> 100");
    }

    /** At least the negative of setting 1: a loss of just that needs nothing, of one more it does. */
    private static void coverAtTheLoss() {
        Told.run("cover: 0 if the loss is just borne", "horse 1 1", "take 0 100 false", "set 1 100", "cover 0 -> 0", "set 1 99",
                "cover 0 -> 1", "set 1 0", "cover 0 -> 100", "set 1 101", "cover 0 -> 0");
        Told.run("cover: 0 if nothing is lost, and no loss is borne", "2 x horse 1 1", "set 1 0", "cover 0 -> 0",
                "take 1 1 false", "cover 0 -> 0", "cover 1 -> 1");
        Told.run("cover: with the loss that is borne at first", "horse 100 1", "take 0 100 false", "cover 0 -> 0",
                "take 0 1 false", "cover 0 -> 1", "take 0 1 false", "cover 0 -> 2");
        Told.run("cover: with the greatest loss that can be borne", "horse 100 1", "set 1 99999", "take 0 999 false", "cover 0 -> 0",
                "take 0 1 false", "cover 0 -> 1");
    }

    private static void coverMost() {
        Told.run("cover: 9999 is the most, NONE is beyond", "horse 1 1", "set 1 0", "take 0 9999 false", "cover 0 -> 9999",
                "take 0 1 false", "cover 0 -> -1", "set 1 1", "cover 0 -> 9999", "set 1 2", "cover 0 -> 9998");
        Told.run("cover: 9999 at 1 to 20 wins 499", "horse 1 20", "set 1 0", "take 0 9980 false", "cover 0 -> 9980",
                "take 0 20 false", "cover 0 -> -1", "price 0 1 1", "cover 0 -> 500", "price 0 1 20", "set 1 1",
                "cover 0 -> 9980");
        Told.run("cover: NONE far beyond, all bets at their dearest", "horse 100 1", "24 x take 0 9999 true", "cover 0 -> -1",
                "price 0 1 20", "cover 0 -> -1", "price 0 100 20", "cover 0 -> -1");
    }

    /** What is won with it is rounded down, so a stake that wins just enough is the least only without a remainder. */
    private static void coverRounded() {
        Told.run("cover: rounded by 7 to 3", "horse 1 1", "set 1 0", "take 0 7 false", "price 0 7 3", "cover 0 -> 3",
                "take 0 3 false", "cover 0 -> 6", "set 1 1", "cover 0 -> 6", "set 1 5", "cover 0 -> 4");
        Told.run("cover: rounded by 100 to 20", "horse 1 1", "set 1 0", "take 0 5 false", "price 0 100 20", "cover 0 -> 1",
                "price 0 1 1", "take 0 1 false", "price 0 100 20", "cover 0 -> 2");
        for (int loss = 1; loss <= 60; loss++) {
            FieldBook book = Told.book("horse 1 1", "set 1 0", "take 0 " + loss + " false");
            for (int[] price : new int[][] {{7, 3}, {3, 7}, {1, 20}, {100, 20}, {100, 1}, {19, 20}, {1, 1}}) {
                book.price(0, price[0], price[1]);
                int stake = book.cover(0);
                Check.due("cover wins enough for " + loss, stake * price[0] / price[1] >= loss ? 1 : 0, 1);
                Check.due("one less does not for " + loss, (stake - 1) * price[0] / price[1] >= loss ? 1 : 0, 0);
                FieldBook laid = Told.book("horse 1 1", "set 1 0", "take 0 " + loss + " false",
                        "price 0 " + price[0] + " " + price[1], "layOff 0 " + stake + " " + price[0] + " " + price[1]);
                Check.due("what is covered is safe, for " + loss, laid.cover(0), 0);
            }
        }
    }

    private static void safeShare() {
        Told.run("safeShare: 1.0 without horses that run", "safeShare -> 1.0", "horse 1 1", "set 1 0", "take 0 1 false",
                "safeShare -> 0.0", "withdraw 0", "safeShare -> 1.0");
        Told.run("safeShare: divided by all that run", "3 x horse 1 1", "set 1 0", "take 0 100 false",
                "safeShare -> 0.6666666666666666", "withdraw 2", "safeShare -> 0.5", "withdraw 0", "safeShare -> 1.0", "undo",
                "withdraw 1", "safeShare -> 0.0");
        Told.run("safeShare: of ten", "10 x horse 1 1", "set 1 0", "take 0 1 false", "safeShare -> 0.9", "9 x take 1 1 false",
                "safeShare -> 0.9");
        Told.run("safeShare: one of ten, and none of ten", "10 x horse 100 1", "set 1 0", "take 0 1 false", "take 1 1 false",
                "take 2 1 false", "take 3 1 false", "take 4 1 false", "take 5 1 false", "take 6 1 false", "take 7 1 false",
                "take 8 1 false", "safeShare -> 0.1", "take 9 1 false", "safeShare -> 0.0");
        Told.run("safeShare: when settled", "2 x horse 1 1", "set 1 0", "take 0 1 false", "type b", "settle", "safeShare -> 0.5");
    }

    private static void safeShareAtTheLoss() {
        Told.run("safeShare: a loss of just setting 1 is borne", "2 x horse 1 1", "take 0 100 false", "set 1 99", "safeShare -> 0.5",
                "set 1 100", "safeShare -> 1.0", "set 1 0", "safeShare -> 0.5");
        Told.run("safeShare: a loss of just 10000, as at first", "2 x horse 100 1", "take 0 100 false", "safeShare -> 1.0",
                "take 0 1 false", "safeShare -> 0.5");
        Told.run("safeShare: a loss of just 99999", "2 x horse 100 1", "set 1 99999", "take 0 999 false", "safeShare -> 1.0",
                "take 0 1 false", "safeShare -> 0.5");
        Told.run("safeShare: nothing won and nothing lost is safe with 0", "2 x horse 1 1", "set 1 0", "safeShare -> 1.0");
        Told.run("safeShare: what is lost beyond -10000000 is not safe", "2 x horse 100 1", "24 x take 1 9999 false",
                "set 1 99999", "safeShare -> 0.5");
    }

    /** The hash over a list of values without a bound, and of it the 64 bits of a long. */
    private static long hashOf(List<Long> values) {
        BigInteger hash = BigInteger.valueOf(3079);
        for (long value : values) {
            hash = hash.multiply(BigInteger.valueOf(31)).add(BigInteger.valueOf(value));
        }
        return hash.longValue();
    }

    private static List<Long> valuesOf(FieldBook book, int first, int second, String text) {
        List<Long> values = new ArrayList<>();
        rowOf(values, book, "count", 13);
        rowOf(values, book, "setting", 1);
        for (int horse = 0; horse < book.count(0); horse++) {
            rowOf(values, book, "horseOf " + horse, 8);
            values.add((long) book.ifWon(horse));
            values.add((long) book.cover(horse));
        }
        for (int bet = 0; bet < book.count(2); bet++) {
            rowOf(values, book, "bet " + bet, 7);
        }
        for (int bet = 0; bet < book.count(3); bet++) {
            rowOf(values, book, "laid " + bet, 4);
        }
        values.add((long) book.ifArrived());
        values.add((long) book.worst());
        values.add(Double.doubleToLongBits(book.safeShare()));
        values.add((long) first);
        values.add((long) second);
        values.add((long) text.length());
        for (char sign : text.toCharArray()) {
            values.add((long) sign);
        }
        return values;
    }

    private static void rowOf(List<Long> values, FieldBook book, String look, int last) {
        for (int what = 0; what <= last; what++) {
            values.add(Long.valueOf(Told.answer(book, look + " " + what)));
        }
    }

    private static void digest(String sentence, FieldBook book, int first, int second, String text) {
        long want = hashOf(valuesOf(book, first, second, text));
        Check.due(sentence, book.digest(), want);
        Check.due(sentence + ", again", book.digest(), want);
    }

    private static void digestOverflows() {
        digest("digest: an empty book", new FieldBook(), 0, 0, "");
        FieldBook full = Told.book("10 x horse 100 1", "12 x take 0 9999 true", "12 x take 9 9999 false",
                "6 x layOff 9 9999 100 1", "set 1 0", "type ~~~~~~~~~~~~~~~~~~~~~~~~~~~~~~");
        digest("digest: a full book, with overflow", full, 0, 0, "~~~~~~~~~~~~~~~~~~~~~~~~~~~~~~");
        full.keep(0);
        Check.type(full, "a>j");
        digest("digest: the first slot", full, 1, 0, "a>j");
        full.keep(1);
        digest("digest: both slots", full, 1, 1, "a>j");
        full.settle();
        digest("digest: a full book, settled", full, 1, 1, "");
        full.undo();
        digest("digest: undone", full, 1, 1, "");
        FieldBook none = Told.book("10 x horse 1 1", "withdraw 0", "withdraw 9", "keep 1");
        digest("digest: the second slot alone", none, 0, 1, "");
    }

    /** The bits of the least and the greatest share, of halves, and of those that no double tells wholly. */
    private static void digestOfShares() {
        int[][] shares = {{0, 1}, {0, 10}, {1, 10}, {1, 8}, {1, 7}, {1, 3}, {1, 2}, {2, 3}, {6, 7}, {9, 10}, {10, 10}};
        for (int[] share : shares) {
            FieldBook book = Told.book(share[1] + " x horse 100 1", "set 1 0");
            for (int horse = share[0]; horse < share[1]; horse++) {
                book.take(horse, 10, false);
            }
            Check.due("safeShare of " + share[0] + " by " + share[1], book.safeShare(), (double) share[0] / share[1]);
            digest("digest: a share of " + share[0] + " by " + share[1], book, 0, 0, "");
        }
    }

    /** Each thing that the digest takes in makes it another one. */
    private static void digestOfEachPart() {
        String[] rows = {"3 x horse 2 1", "take 0 5 true", "layOff 0 5 1 1", "type a"};
        String[] more = {"horse 2 1", "price 2 2 2", "price 2 1 1", "take 0 5 true", "take 0 5 false", "take 1 5 true",
            "layOff 0 5 1 1", "layOff 0 5 2 1", "layOff 0 6 1 1", "withdraw 0", "withdraw 1", "settle", "set 0 4", "set 0 5",
            "set 1 9999", "append 'a'", "append '='", "append '>'", "clearBuffer", "keep 0", "keep 1", "undo"};
        List<Long> found = new ArrayList<>();
        found.add(Told.book(rows).digest());
        for (String row : more) {
            FieldBook book = Told.book(Told.rows(rows, new String[] {row}));
            Check.due("digest after " + row + " is one of before", found.contains(book.digest()) ? 1 : 0, 0);
            found.add(book.digest());
        }
    }
}
