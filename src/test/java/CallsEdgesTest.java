/** Promises 1 to 8 at their limits: what each call takes, what it refuses, and what it leaves as it was. */
public final class CallsEdgesTest {
    private static final String ARGUMENT = " -> throws IllegalArgument";
    private static final String INDEX = " -> throws IndexOutOfBounds";
    private static final String STATE = " -> throws IllegalState";

    /** Two horses, a withdrawn one, bets, a bet laid off, both slots and a text. */
    private static final String[] BUSY = {"horse 2 1", "keep 1", "horse 7 4", "horse 3 1", "take 0 100 true",
        "take 2 50 false", "keep 0", "layOff 1 30 5 2", "withdraw 2", "type b>a"};

    /** The same, settled. */
    private static final String[] SETTLED = Told.rows(BUSY, new String[] {"settle", "type a"});

    public static void main(String[] args) {
        aNewObject();
        horse();
        price();
        take();
        layOff();
        withdraw();
        settle();
        settleRefused();
        set();
        Check.end();
    }

    private static void busy(String sentence, String... rows) {
        Told.run(sentence, Told.rows(BUSY, rows));
    }

    private static void settled(String sentence, String... rows) {
        Told.run(sentence, Told.rows(SETTLED, rows));
    }

    private static void aNewObject() {
        for (int what = 0; what <= 13; what++) {
            Told.run("An empty book counts nothing", "count " + what + " -> 0");
        }
        Told.run("An empty book has no horse", "horseOf 0 0" + INDEX, "ifWon 0" + INDEX, "cover 0" + INDEX,
                "price 0 1 1" + INDEX, "take 0 1 true" + INDEX, "layOff 0 1 1 1" + INDEX, "withdraw 0" + INDEX);
        Told.run("An empty book has no bets", "bet 0 0" + INDEX, "laid 0 0" + INDEX);
        Told.run("An empty book has the settings of the beginning", "setting 0 -> 5", "setting 1 -> 10000");
        Told.run("An empty book has no worst horse, and is safe", "worst -> -1", "safeShare -> 1.0");
        Told.run("A new object has empty slots", "goBack 0" + STATE, "goBack 1" + STATE);
        Told.run("A new object has an empty buffer", "firstError -> 0", "ifArrived -> -1", "settle" + ARGUMENT,
                "clearBuffer -> 0", "append 'a' -> 1");
        Told.run("A new object has no saved states", "undo" + STATE, "count 13 -> 0");
        FieldBook other = Told.book(BUSY);
        Check.due("A new object owes nothing to another", new FieldBook().count(0), 0);
        Check.due("Nor the other to it", other.count(0), 3);
    }

    private static void horse() {
        Told.run("horse: 10 are the most", "8 x horse 100 20", "horse 1 1 -> 8", "horse 1 20 -> 9", "horse 1 1" + STATE,
                "horse 1 20" + STATE, "count 0 -> 10", "count 13 -> 6");
        Told.run("horse: a is 1 to 100", "horse 1 1 -> 0", "horse 0 1" + ARGUMENT, "horse 100 1 -> 1",
                "horse 101 1" + ARGUMENT, "horse min 1" + ARGUMENT, "horse max 1" + ARGUMENT, "count 0 -> 2", "count 13 -> 2");
        Told.run("horse: b is 1 to 20", "horse 1 1 -> 0", "horse 1 0" + ARGUMENT, "horse 1 20 -> 1",
                "horse 1 21" + ARGUMENT, "horse 1 min" + ARGUMENT, "horse 1 max" + ARGUMENT, "count 0 -> 2", "count 13 -> 2");
        Told.run("horse: adds a horse that runs, without bets and without a cut", "horse 4 3", "horseOf 0 0 -> 4",
                "horseOf 0 1 -> 3", "horseOf 0 2 -> 1", "horseOf 0 3 -> 0", "horseOf 0 4 -> 0", "horseOf 0 5 -> 0",
                "horseOf 0 6 -> 0", "horseOf 0 7 -> -1", "horseOf 0 8 -> -1");
        settled("horse: refused when the race is settled", "horse 1 1" + STATE, "horse 100 20" + STATE, "undo -> 5",
                "horse 1 1 -> 3");
        settled("horse: out of range is told first when the race is settled", "horse 0 1" + ARGUMENT, "horse 1 21" + ARGUMENT);
        Told.run("horse: out of range is told first when there are 10", "10 x horse 1 1", "horse 0 1" + ARGUMENT,
                "horse 101 1" + ARGUMENT, "horse 1 0" + ARGUMENT, "horse 1 21" + ARGUMENT);
        Told.run("horse: room again after undo, in the room of the one before nothing is left", "9 x horse 1 1",
                "horse 5 5", "take 9 100 true", "withdraw 9", "undo", "undo", "undo", "horse 7 7 -> 9",
                "horseOf 9 2 -> 1", "horseOf 9 3 -> 0", "horseOf 9 4 -> 0", "horseOf 9 5 -> 0", "horseOf 9 6 -> 0");
    }

    private static void price() {
        busy("price: a is 1 to 100", "price 0 0 7" + ARGUMENT, "price 0 101 7" + ARGUMENT, "price 0 min 7" + ARGUMENT,
                "price 0 max 7" + ARGUMENT, "horseOf 0 0 -> 2", "price 0 1 7 -> 1", "horseOf 0 0 -> 1", "price 0 100 7 -> 1",
                "horseOf 0 0 -> 100", "horseOf 0 1 -> 7");
        busy("price: b is 1 to 20", "price 0 7 0" + ARGUMENT, "price 0 7 21" + ARGUMENT, "price 0 7 min" + ARGUMENT,
                "price 0 7 max" + ARGUMENT, "horseOf 0 1 -> 1", "price 0 7 1 -> 1", "horseOf 0 1 -> 1", "price 0 7 20 -> 1",
                "horseOf 0 1 -> 20", "horseOf 0 0 -> 7");
        busy("price: there is no such horse", "price -1 1 1" + INDEX, "price 3 1 1" + INDEX, "price 10 1 1" + INDEX,
                "price min 1 1" + INDEX, "price max 1 1" + INDEX, "price 1 1 1 -> 0");
        busy("price: no such horse is told first", "price 3 0 1" + INDEX, "price -1 1 21" + INDEX);
        busy("price: the horse is withdrawn", "price 2 1 1" + STATE, "price 2 100 20" + STATE, "horseOf 2 0 -> 3", "undo",
                "price 2 1 1 -> 1");
        busy("price: out of range is told ahead of withdrawn", "price 2 0 1" + ARGUMENT, "price 2 1 0" + ARGUMENT);
        settled("price: refused when the race is settled", "price 0 1 1" + STATE, "price 1 1 1" + STATE, "undo",
                "price 0 1 1 -> 1");
        settled("price: order when the race is settled", "price 3 0 0" + INDEX, "price 0 0 1" + ARGUMENT,
                "price 2 1 21" + ARGUMENT, "price 2 1 1" + STATE);
        Told.run("price: how many bets are on it, 0 to 24", "2 x horse 1 1", "price 0 2 1 -> 0", "take 0 1 false",
                "price 0 2 1 -> 1", "23 x take 0 1 true", "price 0 3 1 -> 24", "price 1 3 1 -> 0", "6 x layOff 1 1 1 1",
                "price 1 4 1 -> 0");
        busy("price: bets keep theirs, in what they return, too", "price 0 100 1", "bet 0 3 -> 2", "bet 0 4 -> 1",
                "type a", "settle", "bet 0 6 -> 350");
        busy("price: undoable", "price 1 9 9", "undo", "horseOf 1 0 -> 7", "horseOf 1 1 -> 4");
    }

    private static void take() {
        busy("take: a stake is 1 to 9999", "take 0 0 true" + ARGUMENT, "take 0 10000 true" + ARGUMENT,
                "take 0 -1 false" + ARGUMENT, "take 0 min false" + ARGUMENT, "take 0 max false" + ARGUMENT,
                "count 2 -> 2", "take 0 1 true -> 2", "take 0 9999 true -> 3", "bet 2 1 -> 1", "bet 3 1 -> 9999");
        busy("take: there is no such horse", "take -1 1 true" + INDEX, "take 3 1 true" + INDEX, "take 10 1 true" + INDEX,
                "take min 1 true" + INDEX, "take max 1 true" + INDEX, "take 1 1 true -> 2");
        busy("take: no such horse is told first", "take 3 0 true" + INDEX, "take -1 10000 true" + INDEX);
        busy("take: the horse is withdrawn", "take 2 1 true" + STATE, "take 2 9999 false" + STATE, "undo", "take 2 1 true -> 2");
        busy("take: out of range is told ahead of withdrawn", "take 2 0 true" + ARGUMENT, "take 2 10000 true" + ARGUMENT);
        busy("take: 24 are the most", "21 x take 1 7 true", "take 1 8 true -> 23", "take 1 9 true" + STATE,
                "take 0 1 false" + STATE, "count 2 -> 24", "horseOf 1 4 -> 22", "take 1 0 true" + ARGUMENT,
                "take 3 1 true" + INDEX, "undo", "take 1 9 true -> 23");
        settled("take: refused when the race is settled", "take 0 1 true" + STATE, "take 2 1 true" + STATE, "count 2 -> 2",
                "undo", "take 0 1 true -> 2");
        settled("take: order when the race is settled", "take 3 0 true" + INDEX, "take 0 0 true" + ARGUMENT,
                "take 2 10000 true" + ARGUMENT);
        busy("take: undoable, and nothing of it is left", "take 0 9 true -> 2", "count 4 -> 268", "undo", "count 4 -> 250",
                "bet 2 0" + INDEX, "horseOf 0 4 -> 1", "horseOf 0 5 -> 100", "horseOf 0 6 -> 100", "take 1 3 false -> 2",
                "bet 2 2 -> 0", "bet 2 5 -> 0", "bet 2 6 -> -1");
    }

    private static void layOff() {
        busy("layOff: a stake is 1 to 9999", "layOff 0 0 1 1" + ARGUMENT, "layOff 0 10000 1 1" + ARGUMENT,
                "layOff 0 -1 1 1" + ARGUMENT, "layOff 0 min 1 1" + ARGUMENT, "layOff 0 max 1 1" + ARGUMENT, "count 3 -> 1",
                "layOff 0 1 1 1 -> 1", "layOff 0 9999 1 1 -> 2", "laid 1 1 -> 1", "laid 2 1 -> 9999", "count 5 -> 10030");
        busy("layOff: a is 1 to 100", "layOff 0 1 0 1" + ARGUMENT, "layOff 0 1 101 1" + ARGUMENT,
                "layOff 0 1 min 1" + ARGUMENT, "layOff 0 1 max 1" + ARGUMENT, "layOff 0 1 1 1 -> 1", "layOff 0 1 100 1 -> 2",
                "laid 1 2 -> 1", "laid 2 2 -> 100");
        busy("layOff: b is 1 to 20", "layOff 0 1 1 0" + ARGUMENT, "layOff 0 1 1 21" + ARGUMENT,
                "layOff 0 1 1 min" + ARGUMENT, "layOff 0 1 1 max" + ARGUMENT, "layOff 0 1 1 1 -> 1", "layOff 0 1 1 20 -> 2",
                "laid 1 3 -> 1", "laid 2 3 -> 20");
        busy("layOff: there is no such horse", "layOff -1 1 1 1" + INDEX, "layOff 3 1 1 1" + INDEX, "layOff 10 1 1 1" + INDEX,
                "layOff min 1 1 1" + INDEX, "layOff max 1 1 1" + INDEX, "layOff 1 1 1 1 -> 1");
        busy("layOff: no such horse is told first", "layOff 3 0 1 1" + INDEX, "layOff -1 1 0 1" + INDEX, "layOff 3 1 1 0" + INDEX);
        busy("layOff: the horse is withdrawn", "layOff 2 1 1 1" + STATE, "layOff 2 9999 100 20" + STATE, "undo",
                "layOff 2 1 1 1 -> 1");
        busy("layOff: out of range is told ahead of withdrawn", "layOff 2 0 1 1" + ARGUMENT, "layOff 2 1 101 1" + ARGUMENT,
                "layOff 2 1 1 21" + ARGUMENT);
        busy("layOff: 6 are the most", "4 x layOff 1 7 1 1", "layOff 1 8 1 1 -> 5", "layOff 1 9 1 1" + STATE,
                "layOff 0 9 1 1" + STATE, "count 3 -> 6", "count 5 -> 66", "layOff 1 0 1 1" + ARGUMENT,
                "layOff 3 1 1 1" + INDEX, "undo", "layOff 1 9 1 1 -> 5");
        settled("layOff: refused when the race is settled", "layOff 0 1 1 1" + STATE, "layOff 2 1 1 1" + STATE, "count 3 -> 1",
                "undo", "layOff 0 1 1 1 -> 1");
        settled("layOff: order when the race is settled", "layOff 3 0 0 0" + INDEX, "layOff 0 0 1 1" + ARGUMENT,
                "layOff 0 1 101 1" + ARGUMENT, "layOff 2 1 1 21" + ARGUMENT);
        busy("layOff: it is no bet on the horse", "layOff 0 9 1 1", "horseOf 0 4 -> 1", "horseOf 0 5 -> 100",
                "horseOf 0 6 -> 100", "count 2 -> 2", "count 4 -> 250");
        busy("layOff: undoable", "layOff 0 9 1 1 -> 1", "undo", "count 3 -> 1", "laid 1 0" + INDEX, "count 5 -> 30");
    }

    private static void withdraw() {
        busy("withdraw: there is no such horse", "withdraw -1" + INDEX, "withdraw 3" + INDEX, "withdraw 10" + INDEX,
                "withdraw min" + INDEX, "withdraw max" + INDEX, "count 1 -> 2");
        busy("withdraw: it is withdrawn", "withdraw 2" + STATE, "horseOf 2 3 -> 25", "bet 0 5 -> 25", "undo",
                "withdraw 2 -> 25", "withdraw 2" + STATE, "bet 0 5 -> 25");
        busy("withdraw: down to none that runs", "withdraw 0 -> 33", "count 1 -> 1", "withdraw 1 -> 36", "count 1 -> 0",
                "count 0 -> 3", "withdraw 0" + STATE, "withdraw 1" + STATE, "worst -> -1", "safeShare -> 1.0",
                "count 10 -> 0", "bet 0 5 -> 90");
        settled("withdraw: refused when the race is settled", "withdraw 0" + STATE, "withdraw 2" + STATE, "undo",
                "withdraw 0 -> 33");
        settled("withdraw: no such horse is told first when the race is settled", "withdraw 3" + INDEX, "withdraw -1" + INDEX);
        busy("withdraw: bets on it are still bets on it", "withdraw 0", "horseOf 0 4 -> 1", "horseOf 0 5 -> 100",
                "horseOf 0 6 -> 100", "count 4 -> 250");
        busy("withdraw: undoable, for the cuts of bets, too", "withdraw 1 -> 36", "bet 0 5 -> 61", "bet 1 5 -> 61", "undo",
                "bet 0 5 -> 25", "bet 1 5 -> 25", "horseOf 1 2 -> 1", "horseOf 1 3 -> 0", "count 1 -> 2");
    }

    private static void settle() {
        busy("settle: returns what the book wins, plus 10000000", "settle -> 10000175", "count 11 -> 10000175",
                "count 12 -> 10000175", "count 8 -> 1");
        busy("settle: clears the buffer", "settle", "firstError -> 0", "clearBuffer -> 0");
        busy("settle: undo brings no text back", "settle", "undo", "count 8 -> 0", "clearBuffer -> 0", "type a",
                "settle -> 9999820", "undo", "clearBuffer -> 0");
        Told.run("settle: one horse, no bets", "horse 1 1", "type a", "settle -> 10000000");
        Told.run("settle: all 24 bets and all 6 laid off at their dearest", "8 x horse 100 1", "set 0 4",
                "24 x take 0 9999 true", "6 x layOff 1 9999 100 1", "type a>b", "count 12 -> 0",
                "settle -> -20056994", "bet 23 6 -> 1269873", "count 6 -> 30476952", "count 7 -> 0", "count 4 -> 479952",
                "count 11 -> -20056994", "count 12 -> -20056994");
        Told.run("settle: all 24 bets lost and all 6 laid off won", "8 x horse 100 1", "24 x take 0 9999 true",
                "6 x layOff 1 9999 100 1", "type b", "settle -> 16479352", "count 6 -> 0", "count 7 -> 6059394",
                "count 11 -> 16479352", "count 12 -> 16479352");
        Told.run("settle: by 10 letters, and by 1 of 10", "10 x horse 1 1", "take 9 1 false", "type a>b>c>d>e>f>g>h>i>j",
                "settle -> 10000001", "undo", "type j", "settle -> 9999999");
        busy("settle: a group of all that run", "type b=a", "settle", "bet 0 6 -> 225", "horseOf 0 8 -> 2",
                "horseOf 1 7 -> 1", "laid 0 4 -> 52");
        busy("settle: undo and settle otherwise leaves nothing of before", "settle", "horseOf 0 7 -> 2", "undo",
                "horseOf 0 7 -> -1", "type b", "settle", "horseOf 0 7 -> -1", "horseOf 0 8 -> -1", "horseOf 1 7 -> 1");
    }

    private static void settleRefused() {
        for (String text : new String[] {"", ">", "a>", "b=", "a>b=", "ab", "a>>b", "a<b", "A", "a>a", "a>b>a", "!", "~",
            "a>b~", "a>b>aaaaaaaaaaaaaaaaaaaaaaaaaa", "aaaaaaaaaaaaaaaaaaaaaaaaaaaaaa"}) {
            busy("settle: the buffer does not tell an arrival: " + text, "type " + text, "settle" + ARGUMENT,
                    "ifArrived -> -1", "count 8 -> 0", "clearBuffer -> " + text.length());
        }
        for (String text : new String[] {"d", "a>d", "d=a", "j", "a>b>j"}) {
            busy("settle: a horse of it is not there: " + text, "type " + text, "settle" + ARGUMENT, "ifArrived -> -1",
                    "count 8 -> 0", "firstError -> " + text.length(), "clearBuffer -> " + text.length());
        }
        for (String text : new String[] {"c", "a>c", "c=b>a", "a>b=c"}) {
            busy("settle: a horse of it is withdrawn: " + text, "type " + text, "settle" + ARGUMENT, "ifArrived -> -1",
                    "count 8 -> 0", "firstError -> " + text.length(), "clearBuffer -> " + text.length());
        }
        settled("settle: refused when the race is settled", "settle" + STATE, "type b>a", "settle" + STATE,
                "horseOf 1 7 -> 1", "horseOf 0 7 -> 2", "clearBuffer -> 3");
        settled("settle: no arrival is told first when the race is settled", "clearBuffer", "settle" + ARGUMENT, "type a>",
                "settle" + ARGUMENT, "type d", "settle" + ARGUMENT, "type c", "settle" + ARGUMENT);
        settled("settle: again after goBack", "goBack 0 -> 2", "settle -> 9999850", "count 8 -> 1");
        Told.run("settle: a horse that is there again after undo", "2 x horse 1 1", "withdraw 1", "type b",
                "settle" + ARGUMENT, "undo", "settle -> 10000000");
        Told.run("settle: a horse that is not there any more after undo", "2 x horse 1 1", "undo", "type b",
                "settle" + ARGUMENT, "ifArrived -> -1", "type a", "settle -> 10000000");
    }

    private static void set() {
        busy("set: there is no such setting", "set -1 4" + INDEX, "set 2 4" + INDEX, "set min 4" + INDEX, "set max 4" + INDEX,
                "setting 0 -> 5", "setting 1 -> 10000");
        busy("set: no such setting is told first", "set 2 -1" + INDEX, "set -1 100000" + INDEX);
        busy("set: setting 0 takes 4 and 5 alone", "set 0 3" + ARGUMENT, "set 0 6" + ARGUMENT, "set 0 10000" + ARGUMENT,
                "set 0 min" + ARGUMENT, "set 0 max" + ARGUMENT, "set 0 4 -> 5", "set 0 5 -> 4");
        busy("set: setting 1 takes 0 to 99999", "set 1 -1" + ARGUMENT, "set 1 100000" + ARGUMENT, "set 1 min" + ARGUMENT,
                "set 1 max" + ARGUMENT, "set 1 0 -> 10000", "set 1 99999 -> 0", "set 1 4 -> 99999");
        settled("set: refused when the race is settled", "set 0 4" + STATE, "set 0 5" + STATE, "set 1 0" + STATE,
                "setting 0 -> 5", "setting 1 -> 10000", "undo", "set 0 4 -> 5");
        settled("set: order when the race is settled", "set 2 3" + INDEX, "set 0 3" + ARGUMENT, "set 1 -1" + ARGUMENT);
        busy("set: undoable", "set 0 4 -> 5", "set 1 0 -> 10000", "undo", "setting 1 -> 10000", "setting 0 -> 4", "undo",
                "setting 0 -> 5");
    }
}
