/**
 * The document read on from promise 1 to promise 25: what each of them says in its own words, and a run that it decides. The
 * answers are reckoned by hand.
 */
public final class DocumentPromisesTest {
    private static final String ARGUMENT = " -> throws IllegalArgument";
    private static final String INDEX = " -> throws IndexOutOfBounds";
    private static final String STATE = " -> throws IllegalState";

    public static void main(String[] args) {
        aNewObject();
        horse();
        price();
        take();
        layOff();
        withdraw();
        settle();
        set();
        buffer();
        keep();
        goBack();
        undo();
        horseOf();
        bet();
        laid();
        countOfThings();
        countOfMoney();
        setting();
        ifArrived();
        ifWon();
        worst();
        cover();
        safeShare();
        digest();
        Check.end();
    }

    private static void aNewObject() {
        Told.run("1: Creates an empty book, with empty slots and an empty buffer.", "count 0 -> 0", "count 2 -> 0",
                "count 3 -> 0", "count 8 -> 0", "count 13 -> 0", "setting 0 -> 5", "setting 1 -> 10000", "goBack 0" + STATE,
                "goBack 1" + STATE, "undo" + STATE, "firstError -> 0", "clearBuffer -> 0");
    }

    private static void horse() {
        Told.run("2: Adds a horse that runs. Undoable.", "horse 3 8 -> 0", "horseOf 0 0 -> 3", "horseOf 0 1 -> 8",
                "horseOf 0 2 -> 1", "count 1 -> 1", "count 13 -> 1", "undo -> 0", "count 0 -> 0");
        Told.run("2: a: 1 to 100, b: 1 to 20; IllegalArgumentException if an argument is out of range", "horse 1 1 -> 0",
                "horse 100 20 -> 1", "horse 0 20" + ARGUMENT, "horse 101 1" + ARGUMENT, "horse 100 0" + ARGUMENT,
                "horse 1 21" + ARGUMENT);
        Told.run("2: IllegalStateException if there are 10, or the race is settled", "9 x horse 1 1", "horse 1 1 -> 9",
                "horse 1 1" + STATE, "undo", "type c", "settle", "horse 1 1" + STATE, "undo", "horse 1 1 -> 9");
    }

    private static void price() {
        Told.run("3: Changes the price of a horse that runs (bets keep theirs). Undoable. Returns how many bets are "
                + "on it.", "2 x horse 3 1", "take 1 50 false", "take 1 60 true", "take 0 70 false", "price 1 6 5 -> 2",
                "price 0 9 8 -> 1", "horseOf 1 0 -> 6", "horseOf 1 1 -> 5", "bet 0 3 -> 3", "bet 1 4 -> 1",
                "take 1 10 false", "bet 3 3 -> 6", "bet 3 4 -> 5", "undo", "undo", "horseOf 0 0 -> 3", "horseOf 1 0 -> 6",
                "undo", "horseOf 1 0 -> 3", "horseOf 1 1 -> 1");
        Told.run("3: what it throws", "3 x horse 3 1", "withdraw 1", "price 3 1 1" + INDEX, "price -1 1 1" + INDEX,
                "price 0 101 1" + ARGUMENT, "price 0 1 21" + ARGUMENT, "price 0 0 1" + ARGUMENT, "price 0 1 0" + ARGUMENT,
                "price 1 1 1" + STATE, "price 2 100 20 -> 0", "price 2 1 1 -> 0", "type a", "settle",
                "price 2 1 1" + STATE);
    }

    private static void take() {
        Told.run("4: Takes a bet. Undoable. Returns the number of the bet.", "2 x horse 9 7", "take 1 9999 true -> 0",
                "take 0 1 false -> 1", "bet 0 0 -> 1", "bet 0 1 -> 9999", "bet 0 2 -> 1", "bet 1 0 -> 0", "bet 1 1 -> 1",
                "bet 1 2 -> 0", "count 13 -> 4", "undo -> 3", "count 2 -> 1", "take 0 2 false -> 1");
        Told.run("4: what it throws", "3 x horse 9 7", "withdraw 2", "take 3 5 true" + INDEX, "take -1 5 true" + INDEX,
                "take 0 0 false" + ARGUMENT, "take 0 10000 false" + ARGUMENT, "take 2 5 true" + STATE, "24 x take 1 5 true",
                "take 1 5 true" + STATE, "undo", "type b", "settle", "take 1 5 true" + STATE, "undo",
                "take 1 5 true -> 23");
    }

    private static void layOff() {
        Told.run("5: Lays a bet off. Undoable. Returns its number.", "2 x horse 9 7", "layOff 1 9999 100 20 -> 0",
                "layOff 0 1 1 1 -> 1", "laid 0 0 -> 1", "laid 0 1 -> 9999", "laid 0 2 -> 100", "laid 0 3 -> 20",
                "laid 1 0 -> 0", "count 13 -> 4", "undo -> 3", "count 3 -> 1", "layOff 0 2 1 1 -> 1");
        Told.run("5: what it throws", "3 x horse 9 7", "withdraw 2", "layOff 3 5 1 1" + INDEX, "layOff -1 5 1 1" + INDEX,
                "layOff 0 0 1 1" + ARGUMENT, "layOff 0 10000 1 1" + ARGUMENT, "layOff 0 5 0 1" + ARGUMENT,
                "layOff 0 5 101 1" + ARGUMENT, "layOff 0 5 1 0" + ARGUMENT, "layOff 0 5 1 21" + ARGUMENT,
                "layOff 2 5 1 1" + STATE, "6 x layOff 1 5 1 1", "layOff 1 5 1 1" + STATE, "undo", "type b", "settle",
                "layOff 1 5 1 1" + STATE, "undo", "layOff 1 5 1 1 -> 5");
    }

    private static void withdraw() {
        Told.run("6: Withdraws a horse. Undoable. Returns its cut.", "horse 5 6", "horse 11 2", "take 0 40 false",
                "withdraw 1 -> 15", "horseOf 1 2 -> 0", "bet 0 5 -> 15", "count 1 -> 1", "count 0 -> 2", "withdraw 0 -> 54",
                "count 1 -> 0", "count 13 -> 5", "undo -> 4", "horseOf 0 2 -> 1", "horseOf 0 3 -> 0", "bet 0 5 -> 15");
        Told.run("6: what it throws", "2 x horse 5 6", "withdraw 2" + INDEX, "withdraw -1" + INDEX, "withdraw 1 -> 54",
                "withdraw 1" + STATE, "type a", "settle", "withdraw 0" + STATE, "withdraw 2" + INDEX);
    }

    private static void settle() {
        Told.run("7: Settles the race by the arrival in the buffer, and clears the buffer. Undoable. Returns what the "
                + "book wins, plus 10000000.", "horse 5 6", "horse 11 2", "take 0 40 false", "take 1 9 true",
                "layOff 0 11 1 1", "type b>a", "settle -> 9999980", "firstError -> 0", "clearBuffer -> 0", "count 8 -> 1",
                "bet 1 6 -> 67", "count 13 -> 6", "undo -> 5", "count 8 -> 0", "clearBuffer -> 0", "type a>b",
                "settle -> 9999987", "bet 1 6 -> 9");
        Told.run("7: IllegalArgumentException if the buffer does not tell an arrival as a text, or a horse of it is "
                + "not there, or withdrawn", "3 x horse 1 1", "withdraw 1", "settle" + ARGUMENT, "type a>",
                "settle" + ARGUMENT, "type a>d", "settle" + ARGUMENT, "type a=b", "settle" + ARGUMENT, "type ac",
                "settle" + ARGUMENT, "type c=a", "settle -> 10000000");
        Told.run("7: IllegalStateException if the race is settled", "horse 1 1", "type a", "settle", "settle" + ARGUMENT,
                "type a", "settle" + STATE, "undo", "settle -> 10000000");
    }

    private static void set() {
        Told.run("8: Changes a setting. Undoable. Returns the previous value.", "set 0 4 -> 5", "set 0 4 -> 4",
                "set 1 3 -> 10000", "set 1 99999 -> 3", "count 13 -> 4", "undo -> 3", "setting 1 -> 3", "undo -> 2",
                "setting 1 -> 10000", "undo -> 1", "undo -> 0", "setting 0 -> 5");
        Told.run("8: what it throws", "horse 1 1", "set 2 4" + INDEX, "set -1 4" + INDEX, "set 0 3" + ARGUMENT,
                "set 0 6" + ARGUMENT, "set 1 -1" + ARGUMENT, "set 1 100000" + ARGUMENT, "type a", "settle",
                "set 0 4" + STATE, "set 1 4" + STATE, "set 2 4" + INDEX, "set 0 9" + ARGUMENT);
    }

    private static void buffer() {
        Told.run("9: Appends a character to the buffer. Returns the new length of the buffer.", "append 33 -> 1",
                "append 126 -> 2", "append 32" + ARGUMENT, "append 127" + ARGUMENT, "append 'a' -> 3", "clearBuffer -> 3");
        Told.run("9: IllegalStateException if the buffer has 30 characters", "29 x append 'a'", "append 'a' -> 30",
                "append 'a'" + STATE, "append 32" + ARGUMENT);
        Told.run("10: Clears the buffer. Returns the length that it had.", "clearBuffer -> 0", "append 'a'", "append 'b'",
                "clearBuffer -> 2", "clearBuffer -> 0", "append 'c' -> 1");
        Told.run("11: Finds the first syntax error of the buffer. Returns the index of the first character that is a "
                + "syntax error; the length of the buffer if there is none.", "firstError -> 0", "type f",
                "firstError -> 1", "type f=", "firstError -> 2", "type f=f", "firstError -> 2", "type f=g?h?",
                "firstError -> 3", "type F", "firstError -> 0", "type f>g=h>", "firstError -> 6");
    }

    private static void keep() {
        Told.run("12: Takes a snapshot, in place of the one in the slot. Returns how many bets there are.", "horse 1 1",
                "keep 0 -> 0", "take 0 5 false", "keep 1 -> 1", "take 0 6 false", "take 0 7 false", "keep 0 -> 3",
                "goBack 1 -> 1", "goBack 0 -> 3", "bet 2 1 -> 7");
        Told.run("12: IllegalArgumentException if slot is out of range", "keep 2" + ARGUMENT, "keep -1" + ARGUMENT,
                "goBack 0" + STATE, "goBack 1" + STATE);
    }

    private static void goBack() {
        Told.run("13: Goes back to a snapshot, which stays. Undoable. Returns how many bets there are then.", "horse 1 1",
                "take 0 5 false", "keep 1", "horse 2 1", "take 1 6 false", "goBack 1 -> 1", "count 0 -> 1",
                "take 0 8 false", "goBack 1 -> 1", "count 13 -> 6", "undo -> 5", "count 2 -> 2", "bet 1 1 -> 8",
                "undo -> 4", "undo -> 3", "count 0 -> 2", "bet 1 1 -> 6", "goBack 1 -> 1");
        Told.run("13: what it throws", "keep 1", "goBack 2" + ARGUMENT, "goBack -1" + ARGUMENT, "goBack 0" + STATE,
                "goBack 1 -> 0");
    }

    private static void undo() {
        Told.run("14: Restores the latest saved state, and drops it. Returns how many saved states are left.", "horse 1 1",
                "horse 2 1", "price 0 3 1", "undo -> 2", "horseOf 0 0 -> 1", "undo -> 1", "count 0 -> 1", "horse 4 1",
                "undo -> 1", "undo -> 0", "count 0 -> 0", "undo" + STATE);
    }

    private static void horseOf() {
        String[] rows = {"horse 5 6", "horse 11 2", "3 x horse 8 1", "take 1 30 true", "take 1 4 false",
            "layOff 1 900 1 1", "price 1 9 1", "withdraw 4 -> 11"};
        Told.run("15: 0, 1: its price, a and b; 2: 1 if it runs, otherwise 0; 3: its cut, 0 if it runs", Told.rows(rows,
                new String[] {"horseOf 1 0 -> 9", "horseOf 1 1 -> 1", "horseOf 1 2 -> 1", "horseOf 1 3 -> 0",
                "horseOf 4 0 -> 8", "horseOf 4 1 -> 1", "horseOf 4 2 -> 0", "horseOf 4 3 -> 11"}));
        Told.run("15: 4: bets on it; 5: stakes on it, to win, together; 6: stakes on it for a place", Told.rows(rows,
                new String[] {"horseOf 1 4 -> 2", "horseOf 1 5 -> 34", "horseOf 1 6 -> 30", "horseOf 0 4 -> 0",
                "horseOf 0 5 -> 0", "horseOf 0 6 -> 0"}));
        Told.run("15: 7: its first place in the arrival, 8: how many horses its group has, if the race is settled, "
                + "and it is told there, otherwise NONE", Told.rows(rows, new String[] {"type d>b=a", "horseOf 1 7 -> -1",
                "horseOf 1 8 -> -1", "settle", "horseOf 1 7 -> 2", "horseOf 1 8 -> 2", "horseOf 3 7 -> 1",
                "horseOf 3 8 -> 1", "horseOf 2 7 -> -1", "horseOf 2 8 -> -1", "horseOf 4 7 -> -1", "horseOf 4 8 -> -1"}));
        Told.run("15: what it throws", Told.rows(rows, new String[] {"horseOf 5 0" + INDEX, "horseOf -1 0" + INDEX,
                "horseOf 0 9" + ARGUMENT, "horseOf 0 -1" + ARGUMENT, "horseOf 5 9" + INDEX}));
    }

    private static void bet() {
        String[] rows = {"horse 5 6", "horse 11 2", "take 1 30 true", "price 1 9 1", "withdraw 0 -> 54", "take 1 4 false"};
        Told.run("16: 0: its horse; 1: its stake; 2: 1 if it is each way, otherwise 0; 3, 4: its price, a and b; 5: "
                + "its cuts", Told.rows(rows, new String[] {"bet 0 0 -> 1", "bet 0 1 -> 30", "bet 0 2 -> 1",
                "bet 0 3 -> 11", "bet 0 4 -> 2", "bet 0 5 -> 54", "bet 1 2 -> 0", "bet 1 3 -> 9", "bet 1 4 -> 1",
                "bet 1 5 -> 0"}));
        Told.run("16: 6: what it returned, 7: why, if the race is settled, otherwise NONE", Told.rows(rows,
                new String[] {"bet 0 6 -> -1", "bet 0 7 -> -1", "type b", "settle", "bet 0 6 -> 135", "bet 0 7 -> 2",
                "bet 1 6 -> 40", "bet 1 7 -> 2", "undo", "bet 0 6 -> -1", "bet 0 7 -> -1"}));
        Told.run("16: what it throws", Told.rows(rows, new String[] {"bet 2 0" + INDEX, "bet -1 0" + INDEX,
                "bet 0 8" + ARGUMENT, "bet 0 -1" + ARGUMENT, "bet 2 8" + INDEX}));
    }

    private static void laid() {
        String[] rows = {"horse 5 6", "horse 11 2", "layOff 1 30 7 5", "price 1 9 1", "layOff 0 8 1 2"};
        Told.run("17: 0: its horse; 1: its stake; 2, 3: its price, a and b; 4: what it returned, if the race is "
                + "settled, otherwise NONE", Told.rows(rows, new String[] {"laid 0 0 -> 1", "laid 0 1 -> 30",
                "laid 0 2 -> 7", "laid 0 3 -> 5", "laid 0 4 -> -1", "laid 1 0 -> 0", "laid 1 3 -> 2", "type b", "settle",
                "laid 0 4 -> 72", "laid 1 4 -> 0"}));
        Told.run("17: what it throws", Told.rows(rows, new String[] {"laid 2 0" + INDEX, "laid -1 0" + INDEX,
                "laid 0 5" + ARGUMENT, "laid 0 -1" + ARGUMENT, "laid 2 5" + INDEX}));
    }

    private static final String[] COUNTED = {"2 x horse 5 6", "4 x horse 7 1", "take 0 21 true", "take 5 10 true",
        "take 1 8 false", "layOff 0 13 1 1", "layOff 1 6 3 2", "withdraw 5 -> 12"};

    private static void countOfThings() {
        Told.run("18: 0: horses; 1: horses that run; 2: bets; 3: bets laid off; 8: 1 if it is settled, otherwise 0; "
                + "9: places", Told.rows(COUNTED, new String[] {"count 0 -> 6", "count 1 -> 5", "count 2 -> 3",
                "count 3 -> 2", "count 8 -> 0", "count 9 -> 2", "type a", "settle", "count 0 -> 6", "count 1 -> 5",
                "count 8 -> 1", "count 9 -> 2"}));
        Told.run("18: 10: the round: for all horses that run 1000 b divided by (a and b), each rounded down, together",
                Told.rows(COUNTED, new String[] {"count 10 -> 1465", "undo", "count 10 -> 1590"}));
        Told.run("18: 13: saved states", Told.rows(COUNTED, new String[] {"count 13 -> 6", "undo -> 5", "count 13 -> 5"}));
        Told.run("18: IllegalArgumentException if what is not 0 to 13", Told.rows(COUNTED,
                new String[] {"count -1" + ARGUMENT, "count 14" + ARGUMENT}));
    }

    private static void countOfMoney() {
        Told.run("18: 4: all stakes of bets, those for a place, too; 5: all stakes laid off", Told.rows(COUNTED,
                new String[] {"count 4 -> 70", "count 5 -> 19"}));
        Told.run("18: 6: what all bets returned, 7: what all bets laid off returned, 0 for both if the race is not "
                + "settled", Told.rows(COUNTED, new String[] {"count 6 -> 0", "count 7 -> 0", "type a", "settle",
                "count 6 -> 78", "count 7 -> 26"}));
        Told.run("18: 11: what the book wins, plus 10000000, told by 4 to 7, if the race is settled, otherwise 0; 12: "
                + "the same told in another way", Told.rows(COUNTED, new String[] {"count 11 -> 0", "count 12 -> 0",
                "type a", "settle -> 9999999", "count 11 -> 9999999", "count 12 -> 9999999", "undo", "count 11 -> 0",
                "count 12 -> 0"}));
    }

    private static void setting() {
        Told.run("19: Returns a setting.", "setting 0 -> 5", "setting 1 -> 10000", "set 0 4", "set 1 6", "setting 0 -> 4",
                "setting 1 -> 6", "setting 2" + INDEX, "setting -1" + INDEX);
    }

    private static void ifArrived() {
        Told.run("20: Returns what the book would win, plus 10000000; NONE if the buffer does not tell an arrival as "
                + "a text, or a horse of it is not there, or withdrawn.", Told.rows(COUNTED,
                new String[] {"ifArrived -> -1", "type a", "ifArrived -> 9999999", "type a>", "ifArrived -> -1", "type b",
                "ifArrived -> 10000033", "type f", "ifArrived -> -1", "type b>g", "ifArrived -> -1", "type a=b",
                "ifArrived -> 10000004", "count 8 -> 0"}));
    }

    private static void ifWon() {
        Told.run("21: Returns what the book would win, plus 10000000, if this horse arrived first, and the others "
                + "that run behind it one after the other, by ascending numbers", Told.rows(COUNTED,
                new String[] {"ifWon 0 -> 9999999", "ifWon 1 -> 10000010", "ifWon 4 -> 10000008", "undo",
                "withdraw 0 -> 54", "ifWon 4 -> 10000022"}));
        Told.run("21: NONE if it is withdrawn.", Told.rows(COUNTED, new String[] {"ifWon 5 -> -1", "ifWon 6" + INDEX,
                "ifWon -1" + INDEX}));
    }

    private static void worst() {
        Told.run("22: Returns the horse with which, by ifWon(), the book would win the least, of several the lowest; "
                + "NONE if no horse runs.", "worst -> -1", "3 x horse 4 1", "worst -> 0", "take 1 6 false", "worst -> 1",
                "take 2 6 false", "worst -> 1", "layOff 1 1 5 1", "worst -> 2", "3 x undo", "withdraw 0", "worst -> 1",
                "withdraw 1", "withdraw 2", "worst -> -1");
    }

    private static void cover() {
        Told.run("23: Returns the least stake, 0 to 9999, that, laid off on it at its price of now, would let the "
                + "book win at least the negative of setting 1 by ifWon() of this horse", "2 x horse 7 2",
                "take 0 100 false", "set 1 20", "cover 0 -> 95", "layOff 0 94 7 2", "cover 0 -> 1", "undo",
                "layOff 0 95 7 2", "cover 0 -> 0", "undo", "price 0 9 4", "cover 0 -> 147", "set 1 350", "cover 0 -> 0",
                "set 1 349", "cover 0 -> 1", "cover 1 -> 0");
        Told.run("23: (there may be 6 already)", "horse 7 2", "take 0 100 false", "6 x layOff 0 1 1 1", "set 1 100",
                "cover 0 -> 70");
        Told.run("23: NONE if there is none, or it is withdrawn.", "2 x horse 1 2", "set 1 0", "take 0 9998 false",
                "cover 0 -> 9998", "take 0 2 false", "cover 0 -> -1", "withdraw 0", "cover 0 -> -1", "cover 1 -> 0",
                "cover 2" + INDEX, "cover -1" + INDEX);
    }

    private static void safeShare() {
        Told.run("24: Returns the horses that run with which, by ifWon(), the book would win at least the negative of "
                + "setting 1, as a double, divided by all that run; 1.0 without them.", "safeShare -> 1.0", "4 x horse 3 1",
                "set 1 30", "take 1 10 false", "safeShare -> 1.0", "take 1 1 false", "safeShare -> 0.75",
                "withdraw 3 -> 25", "safeShare -> 1.0", "set 1 23", "safeShare -> 0.6666666666666666", "withdraw 1",
                "safeShare -> 1.0", "withdraw 0", "withdraw 2", "safeShare -> 1.0");
    }

    /** The list of promise 25 with each of its values told by hand. */
    private static void digest() {
        FieldBook open = Told.book("horse 3 1", "take 0 10 true", "layOff 0 4 2 1", "type a");
        long[] ofOpen = {1, 1, 1, 1, 20, 4, 0, 0, 0, 0, 250, 0, 0, 3, 5, 10000,
            3, 1, 1, 0, 1, 10, 10, -1, -1, 9999978, 0,
            0, 10, 1, 3, 1, 0, -1, -1,
            0, 4, 2, 1, -1,
            9999978, 0, 0x3FF0000000000000L, 0, 0, 1, 97};
        Check.due("25: Computes a hash of the whole state.", open.digest(), hash(ofOpen));
        FieldBook settled = Told.book("horse 1 1", "horse 4 1", "set 1 0", "take 0 6 false", "keep 1", "type b", "settle",
                "type b=");
        long[] ofSettled = {2, 2, 1, 0, 6, 0, 0, 0, 1, 0, 700, 10000006, 10000006, 5, 5, 0,
            1, 1, 1, 0, 1, 6, 0, -1, -1, 9999994, 6,
            4, 1, 1, 0, 0, 0, 0, 1, 1, 10000006, 0,
            0, 6, 0, 1, 1, 0, 0, 0,
            -1, 0, 0x3FE0000000000000L, 0, 1, 2, 98, 61};
        Check.due("25: of a settled race", settled.digest(), hash(ofSettled));
    }

    private static long hash(long[] values) {
        long hash = 3079;
        for (long value : values) {
            hash = 31 * hash + value;
        }
        return hash;
    }
}
