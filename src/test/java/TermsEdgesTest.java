/** The document's "Terms", sentence by sentence: the call just inside each limit, and the one just outside. */
public final class TermsEdgesTest {
    private static final String ARGUMENT = " -> throws IllegalArgument";
    private static final String INDEX = " -> throws IndexOutOfBounds";
    private static final String STATE = " -> throws IllegalState";

    /** Five horses at 5 to 1, so that a place pays, by a fifth, as much again. */
    private static final String[] FIVE = {"5 x horse 5 1"};
    private static final String[] EIGHT = {"8 x horse 5 1"};

    public static void main(String[] args) {
        calls();
        divisions();
        horses();
        prices();
        cuts();
        bets();
        cutsOfBets();
        laidOff();
        groups();
        untold();
        field();
        returnsOfWithdrawn();
        returnsForWinning();
        returnsForAPlace();
        cutsOfReturns();
        reasons();
        returnsOfLaidOff();
        settings();
        Check.end();
    }

    private static String[] with(String[] horses, String... rows) {
        return Told.rows(horses, rows);
    }

    /** An object is used for at most 512 calls after it has been made. */
    private static void calls() {
        FieldBook book = new FieldBook();
        book.horse(1, 1);
        for (int call = 2; call <= 510; call++) {
            Check.due("set, call " + call, book.set(1, call), call == 2 ? 10000 : call - 1);
        }
        Check.due("call 511", book.undo(), 5);
        Check.due("call 512", book.setting(1), 509);
        FieldBook full = new FieldBook();
        for (int call = 1; call <= 511; call++) {
            Check.due("append, call " + call, full.append('a'), (call - 1) % 31 + 1);
            if (call % 31 == 30) {
                call++;
                Check.due("clearBuffer, call " + call, full.clearBuffer(), 30);
            }
        }
        Check.due("firstError, call 512", full.firstError(), 1);
    }

    private static void divisions() {
        Told.run("Divisions are rounded down: a stake by the horses of a group", with(FIVE,
                "take 0 10 false", "take 1 11 false", "take 2 12 false", "type a=b=c",
                "settle", "bet 0 6 -> 18", "bet 1 6 -> 18", "bet 2 6 -> 24"));
        Told.run("Divisions are rounded down: that times a, divided by b", "horse 7 3", "take 0 2 false",
                "take 0 3 false", "take 0 4 false", "take 0 5 false", "take 0 6 false", "type a",
                "settle", "bet 0 6 -> 6", "bet 1 6 -> 10", "bet 2 6 -> 13", "bet 3 6 -> 16", "bet 4 6 -> 20");
        Told.run("Divisions are rounded down: what is left by the cuts", "horse 1 1", "horse 3 1",
                "take 0 3 false", "take 0 4 false", "take 0 5 false", "take 0 1 false", "withdraw 1 -> 25", "type a",
                "settle", "bet 0 6 -> 5", "bet 1 6 -> 7", "bet 2 6 -> 8", "bet 3 6 -> 1");
        Told.run("Divisions are rounded down: a stake times c, divided by h", with(FIVE,
                "take 1 4 true", "take 1 5 true", "take 1 6 true", "type a>b=c=d",
                "settle", "bet 0 6 -> 2", "bet 1 6 -> 2", "bet 2 6 -> 4"));
        Told.run("Divisions are rounded down: that times a, divided by b times setting 0", "5 x horse 7 3",
                "take 1 2 true", "take 1 3 true", "take 1 15 true", "take 1 14 true", "type a>b",
                "settle", "bet 0 6 -> 2", "bet 1 6 -> 4", "bet 2 6 -> 22", "bet 3 6 -> 20");
    }

    private static void horses() {
        Told.run("There are at most 10 horses, numbered from 0 in the order in which they came",
                "count 0 -> 0", "horse 2 1 -> 0", "7 x horse 2 1", "horse 2 1 -> 8", "count 0 -> 9", "horse 3 2 -> 9",
                "count 0 -> 10", "horse 2 1" + STATE, "count 0 -> 10", "horseOf 9 0 -> 3", "horseOf 10 0" + INDEX,
                "undo -> 5", "count 0 -> 9", "horseOf 9 0" + INDEX, "horse 7 2 -> 9", "horseOf 9 0 -> 7");
        Told.run("There are at most 10 horses: a withdrawn horse is still there, and keeps its number",
                "10 x horse 2 1", "withdraw 0 -> 33", "horse 2 1" + STATE, "withdraw 9 -> 33", "horse 2 1" + STATE,
                "count 0 -> 10", "count 1 -> 8", "horseOf 9 2 -> 0", "horseOf 1 2 -> 1");
        Told.run("A horse is told by the letters a to j in texts", "9 x horse 2 1", "type j -> 1", "ifArrived -> -1",
                "horse 2 1 -> 9", "ifArrived -> 10000000", "type k -> 1", "ifArrived -> -1", "type ` -> 1",
                "ifArrived -> -1", "type a -> 1", "settle -> 10000000", "horseOf 0 7 -> 1", "horseOf 9 7 -> -1",
                "undo", "type j", "settle -> 10000000", "horseOf 9 7 -> 1", "horseOf 0 7 -> -1");
    }

    private static void prices() {
        Told.run("A price is a to b, a 1 to 100", "horse 1 7 -> 0", "horse 100 7 -> 1", "horse 0 7" + ARGUMENT,
                "horse 101 7" + ARGUMENT, "horse -1 7" + ARGUMENT, "horse min 7" + ARGUMENT, "horse max 7" + ARGUMENT,
                "count 0 -> 2", "horseOf 0 0 -> 1", "horseOf 1 0 -> 100");
        Told.run("A price is a to b, b 1 to 20", "horse 7 1 -> 0", "horse 7 20 -> 1", "horse 7 0" + ARGUMENT,
                "horse 7 21" + ARGUMENT, "horse 7 -1" + ARGUMENT, "horse 7 min" + ARGUMENT, "horse 7 max" + ARGUMENT,
                "count 0 -> 2", "horseOf 0 1 -> 1", "horseOf 1 1 -> 20");
        Told.run("For b pence a pence are won", "horse 7 20", "take 0 20 false", "take 0 19 false", "take 0 40 false",
                "take 0 3 false", "take 0 2 false", "type a", "settle -> 9999972", "bet 0 6 -> 27", "bet 1 6 -> 25",
                "bet 2 6 -> 54", "bet 3 6 -> 4", "bet 4 6 -> 2");
        Told.run("The greatest and the least price", "horse 100 1", "horse 1 20", "take 0 9999 false",
                "take 1 19 false", "take 1 20 false", "type a", "settle -> 9000139", "bet 0 6 -> 1009899", "undo",
                "type b", "settle -> 10009998", "bet 1 6 -> 19", "bet 2 6 -> 21");
    }

    private static void cuts() {
        Told.run("A cut is 100 b divided by (a and b)", "horse 100 1", "horse 99 1", "horse 2 1", "horse 3 1",
                "horse 100 20", "withdraw 0 -> 0", "withdraw 1 -> 1", "withdraw 2 -> 33", "withdraw 3 -> 25",
                "withdraw 4 -> 16", "horseOf 0 3 -> 0", "horseOf 1 3 -> 1", "horseOf 4 3 -> 16");
        Told.run("A cut is at most 75", "horse 7 20", "horse 1 3", "horse 6 19", "horse 1 20", "withdraw 0 -> 74",
                "withdraw 1 -> 75", "withdraw 2 -> 75", "withdraw 3 -> 75", "horseOf 0 3 -> 74", "horseOf 1 3 -> 75",
                "horseOf 2 3 -> 75", "horseOf 3 3 -> 75");
        Told.run("A cut is by the price then", "horse 2 1", "horse 2 1", "take 0 10 false -> 0", "price 0 1 1 -> 1",
                "withdraw 0 -> 50", "horseOf 0 3 -> 50", "withdraw 1 -> 33");
    }

    private static void bets() {
        Told.run("There are at most 24 bets, numbered likewise", "horse 2 1", "take 0 1 false -> 0",
                "22 x take 0 1 false", "count 2 -> 23", "take 0 9 true -> 23", "count 2 -> 24",
                "take 0 1 false" + STATE, "take 0 1 true" + STATE, "count 2 -> 24", "bet 23 1 -> 9", "bet 24 1" + INDEX,
                "undo -> 5", "bet 23 1" + INDEX, "take 0 8 true -> 23", "bet 23 1 -> 8");
        Told.run("There are at most 24 bets: those on a withdrawn horse are still there", "2 x horse 2 1",
                "24 x take 0 1 false", "withdraw 0", "take 1 1 false" + STATE, "count 2 -> 24");
        Told.run("There are at most 24 bets: those laid off are no such bets", "horse 2 1", "6 x layOff 0 1 1 1",
                "24 x take 0 1 false", "count 2 -> 24", "count 3 -> 6");
        Told.run("A bet is at the price of then", "horse 2 1", "take 0 1 false", "price 0 100 20 -> 1",
                "take 0 1 false", "bet 0 3 -> 2", "bet 0 4 -> 1", "bet 1 3 -> 100", "bet 1 4 -> 20");
        Told.run("A stake is 1 to 9999", "horse 2 1", "take 0 0 false" + ARGUMENT, "take 0 1 false -> 0",
                "take 0 9999 false -> 1", "take 0 10000 false" + ARGUMENT, "take 0 -1 true" + ARGUMENT,
                "take 0 min true" + ARGUMENT, "take 0 max true" + ARGUMENT, "bet 0 1 -> 1", "bet 1 1 -> 9999",
                "count 2 -> 2");
        Told.run("Each way: with the same stake once more for a place", "horse 2 1", "take 0 9999 true", "count 4 -> 19998",
                "horseOf 0 5 -> 9999", "horseOf 0 6 -> 9999", "take 0 1 true", "take 0 1 false", "count 4 -> 20001",
                "horseOf 0 5 -> 10001", "horseOf 0 6 -> 10000");
    }

    private static void cutsOfBets() {
        Told.run("Cuts together of 89 stay", "horse 1 3", "horse 6 1", "horse 2 1", "take 2 100 false",
                "withdraw 0 -> 75", "bet 0 5 -> 75", "take 2 100 false", "withdraw 1 -> 14", "bet 0 5 -> 89",
                "bet 1 5 -> 14", "type c", "settle", "bet 0 6 -> 122", "bet 1 6 -> 272");
        Told.run("Cuts together of 90 stay", "horse 1 3", "horse 17 3", "horse 2 1", "take 2 100 false",
                "withdraw 0 -> 75", "withdraw 1 -> 15", "bet 0 5 -> 90", "type c", "settle", "bet 0 6 -> 120");
        Told.run("Cuts together are at most 90, not 91", "horse 1 3", "horse 5 1", "horse 2 1", "take 2 100 false",
                "withdraw 0 -> 75", "withdraw 1 -> 16", "bet 0 5 -> 90", "type c", "settle", "bet 0 6 -> 120");
        Told.run("Cuts together are at most 90, by many horses", "4 x horse 7 3", "horse 2 1", "take 4 100 false",
                "withdraw 0 -> 30", "withdraw 1 -> 30", "bet 0 5 -> 60", "withdraw 2 -> 30", "bet 0 5 -> 90",
                "withdraw 3 -> 30", "bet 0 5 -> 90", "type e", "settle", "bet 0 6 -> 120");
        Told.run("Cuts together are at most 90, not 150", "2 x horse 1 20", "horse 2 1", "take 2 100 false",
                "withdraw 0 -> 75", "withdraw 1 -> 75", "bet 0 5 -> 90", "undo", "bet 0 5 -> 75", "undo", "bet 0 5 -> 0");
        Told.run("Cuts are those of horses that are withdrawn later", "3 x horse 2 1", "withdraw 0 -> 33",
                "take 1 100 false", "bet 0 5 -> 0", "withdraw 2 -> 33", "bet 0 5 -> 33", "take 1 100 false",
                "bet 1 5 -> 0");
        Told.run("Cuts are those of all horses that are withdrawn later, its own, too", "horse 3 1", "take 0 1 false",
                "withdraw 0 -> 25", "bet 0 5 -> 25");
        Told.run("Cuts of 0 are cuts", "horse 100 1", "horse 2 1", "take 1 100 false", "withdraw 0 -> 0", "bet 0 5 -> 0",
                "type b", "settle", "bet 0 6 -> 300");
    }

    private static void laidOff() {
        Told.run("There are at most 6 bets laid off, numbered likewise", "horse 2 1", "layOff 0 1 1 1 -> 0",
                "4 x layOff 0 1 1 1", "count 3 -> 5", "layOff 0 9 1 1 -> 5", "count 3 -> 6", "layOff 0 1 1 1" + STATE,
                "count 3 -> 6", "laid 5 1 -> 9", "laid 6 1" + INDEX, "undo -> 5", "laid 5 1" + INDEX,
                "layOff 0 8 1 1 -> 5", "laid 5 1 -> 8");
        Told.run("There are at most 6 bets laid off: those on a withdrawn horse are still there", "2 x horse 2 1",
                "6 x layOff 0 1 1 1", "withdraw 0", "layOff 1 1 1 1" + STATE, "count 3 -> 6");
        Told.run("There are at most 6 bets laid off: bets of others are no such bets", "horse 2 1",
                "24 x take 0 1 false", "6 x layOff 0 1 1 1", "count 3 -> 6");
        Told.run("A bet laid off is on a horse at some price", "horse 2 1", "layOff 0 100 7 4", "price 0 9 1 -> 0",
                "laid 0 2 -> 7", "laid 0 3 -> 4", "type a", "settle", "laid 0 4 -> 275");
        Told.run("A bet laid off is to win alone", with(EIGHT, "layOff 1 100 5 1", "type a>b>c", "settle -> 9999900",
                "laid 0 4 -> 0"));
    }

    private static void groups() {
        Told.run("A group of all has the places from 1", "10 x horse 2 1", "type a=b=c=d=e=f=g=h=i=j -> 19", "settle",
                "horseOf 0 7 -> 1", "horseOf 0 8 -> 10", "horseOf 9 7 -> 1", "horseOf 9 8 -> 10");
        Told.run("The tenth of ten has the place 10", "10 x horse 2 1", "type a>b>c>d>e>f>g>h>i>j -> 19", "settle",
                "horseOf 0 7 -> 1", "horseOf 1 7 -> 2", "horseOf 9 7 -> 10", "horseOf 9 8 -> 1", "horseOf 0 8 -> 1");
        Told.run("A group of nine behind one has the places from 2", "10 x horse 2 1", "type j>b=c=d=e=f=g=h=i=a",
                "settle", "horseOf 9 7 -> 1", "horseOf 9 8 -> 1", "horseOf 0 7 -> 2", "horseOf 0 8 -> 9",
                "horseOf 1 7 -> 2", "horseOf 1 8 -> 9");
        Told.run("One behind nine has the place 10", "10 x horse 2 1", "type j=b=c=d=e=f=g=h=i>a", "settle",
                "horseOf 9 7 -> 1", "horseOf 9 8 -> 9", "horseOf 0 7 -> 10", "horseOf 0 8 -> 1");
        Told.run("Groups behind groups", "7 x horse 2 1", "type g=c>a>f=b=d>e", "settle", "horseOf 6 7 -> 1",
                "horseOf 2 7 -> 1", "horseOf 2 8 -> 2", "horseOf 0 7 -> 3", "horseOf 0 8 -> 1", "horseOf 5 7 -> 4",
                "horseOf 3 7 -> 4", "horseOf 1 8 -> 3", "horseOf 4 7 -> 7", "horseOf 4 8 -> 1");
        Told.run("An arrival is of horses that run", "3 x horse 2 1", "withdraw 1", "type b", "ifArrived -> -1",
                "type a>b", "ifArrived -> -1", "type a=b", "ifArrived -> -1", "settle" + ARGUMENT, "type a=c",
                "ifArrived -> 10000000", "settle -> 10000000");
    }

    /** Horses that are not told arrive behind all that are, in no group; a part for a place on them returns nothing. */
    private static void untold() {
        Told.run("A horse that is not told is in no group", with(FIVE, "type e", "settle", "horseOf 4 7 -> 1",
                "horseOf 4 8 -> 1", "horseOf 0 7 -> -1", "horseOf 0 8 -> -1", "horseOf 3 7 -> -1"));
        Told.run("A part for a place on a horse that is not told returns nothing, though a place is left", with(FIVE,
                "take 1 100 true", "type a", "settle -> 10000200", "bet 0 6 -> 0", "bet 0 7 -> 0"));
        Told.run("The last that runs is not told, and gets nothing", with(EIGHT, "take 7 100 true", "type a>b",
                "settle -> 10000200", "bet 0 6 -> 0", "bet 0 7 -> 0"));
        Told.run("A withdrawn horse has no place", with(EIGHT, "withdraw 2", "type a", "settle", "horseOf 2 7 -> -1",
                "horseOf 2 8 -> -1"));
    }

    /** There is no place for up to 4, 2 places for 5 to 7, and 3 places for 8 and more. */
    private static void field() {
        Told.run("No place for up to 4", "count 9 -> 0", "horse 2 1", "count 9 -> 0", "3 x horse 2 1", "count 1 -> 4",
                "count 9 -> 0");
        Told.run("2 places for 5 to 7", "5 x horse 2 1", "count 9 -> 2", "horse 2 1", "count 9 -> 2", "horse 2 1",
                "count 1 -> 7", "count 9 -> 2");
        Told.run("3 places for 8 and more", "8 x horse 2 1", "count 9 -> 3", "horse 2 1", "count 9 -> 3", "horse 2 1",
                "count 1 -> 10", "count 9 -> 3");
        Told.run("The field counts by how many horses run", "10 x horse 2 1", "2 x undo", "withdraw 0", "count 9 -> 2",
                "undo", "count 9 -> 3", "horse 2 1 -> 8", "withdraw 8", "count 9 -> 3", "withdraw 1",
                "count 1 -> 7", "count 9 -> 2", "withdraw 2", "withdraw 3", "count 1 -> 5", "count 9 -> 2", "withdraw 4",
                "count 1 -> 4", "count 9 -> 0", "horse 2 1 -> 9", "count 9 -> 2");
        Told.run("The field counts by the horses that run when it is settled", with(EIGHT, "take 2 10 true",
                "take 1 10 true", "withdraw 7 -> 16", "type a>b>c", "settle", "bet 0 6 -> 0", "bet 1 6 -> 18"));
    }

    private static void returnsOfWithdrawn() {
        Told.run("A bet returns its whole stake if its horse is withdrawn", "2 x horse 2 1", "take 0 9999 false",
                "take 0 9999 true", "take 0 1 true", "withdraw 0", "type b", "ifArrived -> 10000000",
                "settle -> 10000000", "bet 0 6 -> 9999", "bet 1 6 -> 19998", "bet 2 6 -> 2", "bet 0 7 -> 1",
                "bet 1 7 -> 1", "bet 2 7 -> 1");
        Told.run("A whole stake is returned with places, too", "6 x horse 2 1", "take 0 50 true", "withdraw 0",
                "type b>c", "settle -> 10000000", "bet 0 6 -> 100", "bet 0 7 -> 1");
    }

    private static void returnsForWinning() {
        Told.run("A stake divided by h counts, h of 10", "10 x horse 1 1", "take 0 9 false", "take 9 10 false",
                "take 5 19 false", "take 5 20 false", "type a=b=c=d=e=f=g=h=i=j", "settle", "bet 0 6 -> 0",
                "bet 1 6 -> 2", "bet 2 6 -> 2", "bet 3 6 -> 4", "bet 0 7 -> 0", "bet 1 7 -> 2");
        Told.run("A stake divided by h counts, h of 1 and 2", "2 x horse 3 1", "take 0 1 false", "take 0 2 false",
                "take 0 3 false", "type a", "settle", "bet 0 6 -> 4", "bet 1 6 -> 8", "bet 2 6 -> 12", "undo",
                "type a=b", "settle", "bet 0 6 -> 0", "bet 1 6 -> 4", "bet 2 6 -> 4");
        Told.run("Nothing if the horse is not in the first group", "3 x horse 3 1", "take 1 9999 false",
                "take 2 9999 false", "type a>b=c", "settle -> 10019998", "bet 0 6 -> 0", "bet 1 6 -> 0", "bet 0 7 -> 0");
        Told.run("Nothing for a place without a stake for it", with(FIVE, "take 1 9999 false", "type a>b",
                "settle -> 10009999", "bet 0 6 -> 0", "bet 0 7 -> 0"));
    }

    private static void returnsForAPlace() {
        String[] onAll = {"take 0 10 true", "take 1 10 true", "take 2 10 true", "take 3 10 true"};
        Told.run("2 places: the second is within, the third is not", Told.rows(FIVE, onAll, new String[] {
            "type a>b>c>d>e", "settle", "bet 0 6 -> 80", "bet 1 6 -> 20", "bet 2 6 -> 0", "bet 1 7 -> 3", "bet 2 7 -> 0"}));
        Told.run("3 places: the third is within, the fourth is not", Told.rows(EIGHT, onAll, new String[] {
            "type a>b>c>d>e", "settle", "bet 0 6 -> 80", "bet 1 6 -> 20", "bet 2 6 -> 20", "bet 3 6 -> 0",
            "bet 2 7 -> 3", "bet 3 7 -> 0"}));
        Told.run("One of two places of a group is within 2", Told.rows(FIVE, onAll, new String[] {
            "type a>b=c>d", "settle", "bet 1 6 -> 10", "bet 2 6 -> 10", "bet 1 7 -> 3", "bet 3 6 -> 0"}));
        Told.run("Two of three places of a group are within 2", Told.rows(FIVE, onAll, new String[] {
            "type a=b=c>d", "settle", "bet 0 6 -> 30", "bet 2 6 -> 30", "bet 2 7 -> 2", "bet 3 6 -> 0", "bet 3 7 -> 0"}));
        Told.run("Both places of a group are within 2, the next is not", Told.rows(FIVE, onAll, new String[] {
            "type a=b>c>d", "settle", "bet 0 6 -> 50", "bet 1 6 -> 50", "bet 2 6 -> 0", "bet 2 7 -> 0"}));
        Told.run("Three of four places of a group are within 3", Told.rows(EIGHT, onAll, new String[] {
            "type d=c=b=a", "settle", "bet 0 6 -> 26", "bet 3 6 -> 26", "bet 3 7 -> 2"}));
        Told.run("All places of a group are within 3, none of the next", Told.rows(EIGHT, onAll, new String[] {
            "type a>b=c>d", "settle", "bet 1 6 -> 20", "bet 2 6 -> 20", "bet 3 6 -> 0", "undo",
            "type a=b=c>d", "settle", "bet 2 6 -> 38", "bet 3 6 -> 0", "bet 3 7 -> 0"}));
        Told.run("One of two places of a group behind two is within 3", Told.rows(EIGHT, onAll, new String[] {
            "type a=b>c=d", "settle", "bet 2 6 -> 10", "bet 3 6 -> 10", "bet 3 7 -> 3"}));
        Told.run("One of six places counts: a stake of 6 is the least that returns something", with(EIGHT,
                "take 7 5 true", "take 7 6 true", "take 7 11 true", "take 7 12 true", "type a>b>c=d=e=f=g=h", "settle",
                "bet 0 6 -> 0", "bet 1 6 -> 2", "bet 2 6 -> 2", "bet 3 6 -> 4", "bet 0 7 -> 0", "bet 1 7 -> 3"));
        Told.run("The greatest stake for a place", "8 x horse 100 1", "take 2 9999 true", "set 0 4", "type a=b=c",
                "settle", "bet 0 6 -> 596607");
        Told.run("No places: the stake, told or not", "4 x horse 2 1", "take 0 10 true", "take 1 10 true",
                "take 2 10 true", "type a>b", "settle", "bet 0 6 -> 40", "bet 1 6 -> 10", "bet 2 6 -> 10",
                "bet 0 7 -> 2", "bet 1 7 -> 4", "bet 2 7 -> 4");
        Told.run("No places: a stake of 9999 and of 1, without cuts", "horse 1 20", "2 x horse 2 1", "take 1 9999 true",
                "take 1 1 true", "withdraw 0 -> 75", "type c", "settle", "bet 0 6 -> 9999", "bet 1 6 -> 1",
                "bet 1 7 -> 4");
    }

    private static void cutsOfReturns() {
        Told.run("What is won is cut for winning and likewise for a place", "horse 7 3", "4 x horse 2 1", "horse 3 1",
                "take 0 100 true", "withdraw 5 -> 25", "take 0 100 true", "type a", "settle", "bet 0 6 -> 408",
                "bet 1 6 -> 479", "undo", "type b>a", "settle", "bet 0 6 -> 134", "bet 1 6 -> 146");
        Told.run("The part of the price for a place is that of setting 0 when it is settled", "horse 7 3",
                "4 x horse 2 1", "horse 3 1", "take 0 100 true", "withdraw 5 -> 25", "set 0 4 -> 5", "type a",
                "settle", "bet 0 6 -> 417", "undo", "type b>a", "settle", "bet 0 6 -> 143");
        Told.run("Cuts of 90 leave a tenth, and of 9 nothing", "horse 1 3", "horse 1 3", "horse 1 1", "take 2 9 false",
                "take 2 10 false", "take 2 19 false", "withdraw 0", "withdraw 1", "type c", "settle", "bet 0 6 -> 9",
                "bet 1 6 -> 11", "bet 2 6 -> 20", "bet 0 7 -> 2");
    }

    private static void reasons() {
        Told.run("The reason is 1 for a withdrawn horse, also if no place is there", "horse 2 1", "horse 2 1",
                "take 0 1 true", "withdraw 0", "type b", "bet 0 7 -> -1", "settle", "bet 0 7 -> 1");
        Told.run("The reason is 2 if it returns something for winning, be it 1", "5 x horse 1 20", "take 0 1 false",
                "take 0 1 true", "type a>b", "settle", "bet 0 6 -> 1", "bet 0 7 -> 2", "bet 1 6 -> 2", "bet 1 7 -> 2");
        Told.run("The reason is 3 if it returns something for a place, but not for winning", "5 x horse 1 20",
                "take 0 1 true", "take 1 1 true", "take 2 2 true", "take 3 1 true", "type a=b>c=d", "settle",
                "bet 0 6 -> 1", "bet 0 7 -> 3", "bet 1 6 -> 1", "bet 1 7 -> 3", "bet 2 7 -> 0", "bet 3 7 -> 0",
                "undo", "type e>c=d", "settle", "bet 2 6 -> 1", "bet 2 7 -> 3", "bet 3 6 -> 0", "bet 3 7 -> 0");
        Told.run("The reason is 4 if only the stake for a place is returned", "4 x horse 2 1", "take 0 1 true",
                "take 1 1 true", "take 1 2 true", "take 2 1 false", "type a=b", "settle", "bet 0 6 -> 1", "bet 0 7 -> 4",
                "bet 1 7 -> 4", "bet 2 6 -> 5", "bet 2 7 -> 2", "bet 3 6 -> 0", "bet 3 7 -> 0");
        Told.run("The reason is 0 otherwise", with(EIGHT, "take 0 1 false", "take 3 1 true", "take 4 1 true",
                "take 7 1 true", "type b>c=d=e=f", "settle", "bet 0 7 -> 0", "bet 1 7 -> 0", "bet 2 7 -> 0",
                "bet 3 7 -> 0", "bet 3 6 -> 0"));
    }

    private static void returnsOfLaidOff() {
        Told.run("A bet laid off returns likewise: its stake divided by h counts", "3 x horse 2 1", "layOff 0 1 7 3",
                "layOff 0 2 7 3", "layOff 0 3 7 3", "type a", "settle", "laid 0 4 -> 3", "laid 1 4 -> 6",
                "laid 2 4 -> 10", "undo", "type a=b", "settle", "laid 0 4 -> 0", "laid 1 4 -> 3", "laid 2 4 -> 3", "undo",
                "type a=b=c", "settle", "laid 1 4 -> 0", "laid 2 4 -> 3");
        Told.run("A bet laid off returns without cuts", "2 x horse 1 20", "horse 2 1", "layOff 2 100 2 1",
                "take 2 100 false", "withdraw 0", "withdraw 1", "type c", "settle", "laid 0 4 -> 300", "bet 0 6 -> 120");
        Told.run("A bet laid off returns its stake if its horse is withdrawn", "2 x horse 2 1", "layOff 0 9999 100 1",
                "layOff 0 1 1 1", "withdraw 0", "laid 0 4 -> -1", "type b", "settle -> 10000000", "laid 0 4 -> 9999",
                "laid 1 4 -> 1");
        Told.run("A bet laid off returns nothing behind the first group", "3 x horse 2 1", "layOff 1 9999 100 1",
                "layOff 2 9999 100 1", "type a>b", "settle -> 9980002", "laid 0 4 -> 0", "laid 1 4 -> 0");
        Told.run("The greatest bets laid off", "horse 2 1", "6 x layOff 0 9999 100 1", "type a", "settle -> 15999400",
                "laid 5 4 -> 1009899", "count 7 -> 6059394", "count 5 -> 59994");
    }

    private static void settings() {
        Told.run("Setting 0 is 4 or 5, at first 5", "setting 0 -> 5", "set 0 3" + ARGUMENT, "set 0 6" + ARGUMENT,
                "set 0 0" + ARGUMENT, "set 0 -4" + ARGUMENT, "set 0 min" + ARGUMENT, "set 0 max" + ARGUMENT,
                "setting 0 -> 5", "set 0 4 -> 5", "setting 0 -> 4", "set 0 5 -> 4", "setting 0 -> 5",
                "setting 1 -> 10000");
        Told.run("Setting 1 is 0 to 99999, at first 10000", "setting 1 -> 10000", "set 1 -1" + ARGUMENT,
                "set 1 100000" + ARGUMENT, "set 1 min" + ARGUMENT, "set 1 max" + ARGUMENT, "setting 1 -> 10000",
                "set 1 0 -> 10000", "setting 1 -> 0", "set 1 99999 -> 0", "setting 1 -> 99999", "set 1 1 -> 99999",
                "setting 0 -> 5");
    }
}
