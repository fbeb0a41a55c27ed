/**
 * The document read from its first line to the end of "Terms": each sentence in its own words, and a run that it decides.
 * The answers are reckoned by hand.
 */
public final class DocumentTermsTest {
    private static final String ARGUMENT = " -> throws IllegalArgument";
    private static final String INDEX = " -> throws IndexOutOfBounds";
    private static final String STATE = " -> throws IllegalState";

    public static void main(String[] args) {
        whatItIs();
        numbers();
        horses();
        bets();
        arrival();
        places();
        returns();
        reasons();
        laidOff();
        settings();
        inputText();
        snapshots();
        savedStates();
        exceptions();
        Check.end();
    }

    /** Five run for two places, "f" is withdrawn with a cut of 25, and bet 4 is taken behind that. */
    private static final String[] RACE = {"horse 5 2 -> 0", "horse 4 1 -> 1", "horse 10 1 -> 2", "horse 7 4 -> 3",
        "horse 20 1 -> 4", "horse 3 1 -> 5", "take 0 200 true -> 0", "take 1 150 false -> 1", "take 5 100 true -> 2",
        "take 2 75 true -> 3", "layOff 1 60 4 1 -> 0", "withdraw 5 -> 25", "take 3 90 true -> 4"};

    private static void race(String sentence, String... rows) {
        Told.run(sentence, Told.rows(RACE, rows));
    }

    private static void whatItIs() {
        race("The field book of a race: settlement of each bet with its reason", "type b=c>a>d", "settle -> 10000169",
                "bet 0 6 -> 0", "bet 0 7 -> 0", "bet 1 6 -> 300", "bet 1 7 -> 2", "bet 2 6 -> 200", "bet 2 7 -> 1",
                "bet 3 6 -> 501", "bet 3 7 -> 2", "bet 4 6 -> 0", "bet 4 7 -> 0", "laid 0 4 -> 150");
        race("The field book of a race: accounts told in two ways", "type b=c>a>d", "settle", "count 4 -> 1080",
                "count 5 -> 60", "count 6 -> 1001", "count 7 -> 150", "count 11 -> 10000169", "count 12 -> 10000169");
        race("The field book of a race: what each horse would cost, the worst one", "ifWon 0 -> 9999970",
                "ifWon 1 -> 10000245", "ifWon 2 -> 9999721", "ifWon 3 -> 10000177", "ifWon 4 -> 10000545", "ifWon 5 -> -1",
                "worst -> 2");
        race("The field book of a race: what should be laid off", "set 1 200", "cover 0 -> 0", "cover 2 -> 8",
                "cover 5 -> -1", "safeShare -> 0.8", "layOff 2 7 10 1", "cover 2 -> 1", "safeShare -> 0.8", "undo",
                "layOff 2 8 10 1", "cover 2 -> 0", "safeShare -> 1.0");
        race("The field book of a race: the round of the book", "count 10 -> 985");
        race("The field book of a race: arrivals as texts with errors by place", "type b=c>>a", "firstError -> 4",
                "ifArrived -> -1", "type b=c>a", "firstError -> 5", "ifArrived -> 10000169");
        race("The field book of a race: snapshots and undo", "keep 0 -> 5", "type b", "settle", "goBack 0 -> 5",
                "count 8 -> 0", "undo", "count 8 -> 1", "undo", "count 8 -> 0");
    }

    private static void numbers() {
        Told.run("All numbers are integers, but for a share.", "3 x horse 1 1", "set 1 0", "take 0 1 false",
                "ifWon 0 -> 9999999", "cover 0 -> 1", "safeShare -> 0.6666666666666666");
        Told.run("Money is in pence; divisions are rounded down (all divided numbers are at least 0).", "horse 9 10",
                "take 0 9 false", "type a", "settle -> 9999992", "bet 0 6 -> 17", "count 10 -> 526");
    }

    private static void horses() {
        Told.run("There are at most 10 horses, numbered from 0 in the order in which they came, told by the "
                + "letters \"a\" to \"j\" in texts.",
                "horse 1 1 -> 0", "horse 2 1 -> 1", "7 x horse 3 1", "horse 4 1 -> 9", "horse 5 1" + STATE,
                "take 9 10 false", "type j", "ifArrived -> 9999960", "type a", "ifArrived -> 10000010", "type k",
                "ifArrived -> -1", "horseOf 0 0 -> 1", "horseOf 1 0 -> 2", "horseOf 9 0 -> 4");
        Told.run("A horse has a price, a to b (a 1 to 100, b 1 to 20: for b pence a pence are won), and runs or is "
                + "withdrawn.", "horse 100 20 -> 0", "horse 1 1 -> 1", "horse 101 20" + ARGUMENT, "horse 100 21" + ARGUMENT,
                "horse 0 20" + ARGUMENT, "horse 100 0" + ARGUMENT, "take 0 20 false", "type a", "ifArrived -> 9999900",
                "horseOf 0 2 -> 1", "withdraw 0 -> 16", "horseOf 0 2 -> 0", "horseOf 1 2 -> 1");
        Told.run("When a horse is withdrawn, its cut is 100 b divided by (a and b), by its price then, at most 75.",
                "horse 4 9", "horse 2 8", "horse 1 1", "price 0 9 4", "withdraw 0 -> 30", "withdraw 1 -> 75",
                "horseOf 0 3 -> 30", "horseOf 1 3 -> 75", "horseOf 2 3 -> 0", "undo", "undo", "price 0 4 9",
                "withdraw 0 -> 69");
    }

    private static void bets() {
        Told.run("There are at most 24 bets, numbered likewise.", "horse 1 1", "take 0 7 false -> 0", "22 x take 0 1 false",
                "take 0 8 true -> 23", "take 0 9 false" + STATE, "bet 0 1 -> 7", "bet 23 1 -> 8");
        Told.run("A bet is on a horse, at the price of then, with a stake, 1 to 9999, to win; or each way: with the "
                + "same stake once more for a place.", "5 x horse 8 3", "take 2 60 true -> 0", "price 2 1 1 -> 1",
                "take 2 60 false -> 1", "take 2 0 true" + ARGUMENT, "take 2 10000 true" + ARGUMENT, "bet 0 0 -> 2",
                "bet 0 2 -> 1", "bet 0 3 -> 8", "bet 0 4 -> 3", "bet 1 2 -> 0", "bet 1 3 -> 1", "bet 1 4 -> 1",
                "count 4 -> 180", "type c", "settle -> 9999748", "bet 0 6 -> 312", "bet 1 6 -> 120");
        Told.run("Its cuts are those of all horses that are withdrawn later, together, at most 90.", "horse 4 6",
                "horse 13 7", "horse 19 1", "horse 1 1", "take 3 100 false", "withdraw 2 -> 5", "take 3 100 false",
                "bet 0 5 -> 5", "bet 1 5 -> 0", "withdraw 1 -> 35", "bet 0 5 -> 40", "bet 1 5 -> 35", "withdraw 0 -> 60",
                "bet 0 5 -> 90", "bet 1 5 -> 90", "take 3 100 false", "bet 2 5 -> 0", "type d", "settle -> 9999880",
                "bet 0 6 -> 110", "bet 2 6 -> 200");
        Told.run("There are at most 6 bets laid off, numbered likewise: bets of the book itself, on a horse at some "
                + "price, to win alone.", "5 x horse 1 1", "layOff 1 7 30 1 -> 0", "4 x layOff 0 1 1 1",
                "layOff 0 8 1 1 -> 5", "layOff 0 9 1 1" + STATE, "laid 0 1 -> 7", "laid 0 2 -> 30", "laid 5 1 -> 8",
                "type c>b", "settle -> 9999981", "undo", "type b>c", "settle -> 10000198");
    }

    private static void arrival() {
        Told.run("An arrival is a row of groups of horses that run; horses in one group arrive together (a dead heat).",
                "6 x horse 2 1", "withdraw 4", "type e", "ifArrived -> -1", "type b=a>f=c=d", "settle -> 10000000",
                "horseOf 0 8 -> 2", "horseOf 1 8 -> 2", "horseOf 2 8 -> 3", "horseOf 4 8 -> -1", "horseOf 5 8 -> 3");
        Told.run("A group has the places from 1 more than there are horses ahead of it, as many as it has horses.",
                "6 x horse 2 1", "type b=a>f>c=d", "settle", "horseOf 0 7 -> 1", "horseOf 1 7 -> 1", "horseOf 5 7 -> 3",
                "horseOf 5 8 -> 1", "horseOf 2 7 -> 4", "horseOf 3 7 -> 4", "horseOf 3 8 -> 2", "horseOf 4 7 -> -1");
        Told.run("Horses that are not told arrive behind all that are, in no group (a part for a place on them "
                + "returns nothing).", "5 x horse 2 1", "take 4 50 true", "type a", "settle -> 10000100",
                "horseOf 4 7 -> -1", "horseOf 4 8 -> -1", "bet 0 6 -> 0", "bet 0 7 -> 0", "undo", "type a>e",
                "settle -> 10000030", "bet 0 6 -> 70", "bet 0 7 -> 3");
    }

    private static void places() {
        int[] due = {0, 0, 0, 0, 0, 2, 2, 2, 3, 3, 3};
        FieldBook book = new FieldBook();
        String sentence = "The field counts by how many horses run: there is no place for up to 4, 2 places for "
                + "5 to 7, and 3 places for 8 and more.";
        for (int run = 0; run <= 10; run++) {
            Check.due(sentence + " / " + run + " came", book.count(9), due[run]);
            if (run < 10) {
                book.horse(6, 1);
            }
        }
        for (int run = 9; run >= 0; run--) {
            book.withdraw(run);
            Check.due(sentence + " / " + run + " are left", book.count(9), due[run]);
        }
    }

    private static void returns() {
        String[] three = {"horse 13 6", "horse 5 3", "horse 2 1", "take 0 101 false", "take 1 40 true", "withdraw 1 -> 37"};
        Told.run("If its horse is withdrawn: its whole stake (the reason 1).", Told.rows(three, new String[] {"type c",
                "settle -> 10000101", "bet 1 6 -> 80", "bet 1 7 -> 1"}));
        Told.run("The part to win: if its horse is in the first group, of h horses: the stake divided by h counts; it "
                + "returns this, and what is won: that times a, divided by b, and of this the cuts are taken away: it "
                + "is times (100 less the cuts), divided by 100.", Told.rows(three, new String[] {"type a=c",
                "settle -> 9999983", "bet 0 6 -> 118", "undo", "type a", "settle -> 9999863", "bet 0 6 -> 238"}));
        Told.run("(The part to win.) Otherwise nothing.", Told.rows(three, new String[] {"type c>a", "settle -> 10000101",
                "bet 0 6 -> 0"}));
        String[] nine = {"horse 13 6", "horse 5 3", "7 x horse 2 1", "take 0 101 true", "withdraw 1 -> 37"};
        Told.run("The part for a place, if there are places: if the group of its horse, of h horses, has c of its "
                + "places within the places of the field, and c is above 0: the stake times c, divided by h, counts; "
                + "it returns this, and what is won: that times a, divided by b times setting 0, less the cuts "
                + "likewise.", Told.rows(nine, new String[] {"type c>a=d=e", "settle -> 10000117", "bet 0 6 -> 85",
                "bet 0 7 -> 3", "undo", "set 0 4", "type c>a=d=e", "settle -> 10000113", "bet 0 6 -> 89"}));
        Told.run("(The part for a place.) Otherwise nothing.", Told.rows(nine, new String[] {"type c=d=e>a",
                "settle -> 10000202", "bet 0 6 -> 0", "bet 0 7 -> 0"}));
        Told.run("If there are no places: its stake.", "4 x horse 3 1", "take 0 25 true", "take 1 35 true", "type a>b",
                "settle -> 9999960", "bet 0 6 -> 125", "bet 1 6 -> 35", "undo", "horse 3 1", "type a>b",
                "settle -> 9999924", "bet 0 6 -> 140", "bet 1 6 -> 56");
    }

    private static void reasons() {
        String[] five = {"6 x horse 3 1", "take 5 4 true", "take 0 4 true", "take 1 4 true", "take 2 4 true", "take 1 4 false",
            "withdraw 5"};
        Told.run("The reason is 1 as told; 2 if it returns something for winning; 3 if it returns something for a "
                + "place, but not for winning; 0 otherwise.", Told.rows(five, new String[] {"bet 0 7 -> -1", "type a>b>c",
                "settle", "bet 0 7 -> 1", "bet 1 7 -> 2", "bet 2 7 -> 3", "bet 3 7 -> 0", "bet 4 7 -> 0"}));
        Told.run("The reason is 4 if only the stake for a place is returned, as there are no places", Told.rows(five,
                new String[] { "withdraw 4", "type a>b>c", "settle", "bet 0 7 -> 1", "bet 1 7 -> 2", "bet 2 7 -> 4",
                "bet 3 7 -> 4", "bet 4 7 -> 0"}));
    }

    private static void laidOff() {
        Told.run("A bet laid off returns likewise (without cuts), to win; its stake, if its horse is withdrawn.",
                "horse 13 6", "horse 5 3", "horse 2 1", "layOff 0 101 13 6", "layOff 1 33 9 2", "withdraw 1 -> 37",
                "type a=c", "settle -> 10000057", "laid 0 4 -> 158", "laid 1 4 -> 33", "undo", "type a",
                "settle -> 10000218", "laid 0 4 -> 319", "undo", "type c>a", "settle -> 9999899", "laid 0 4 -> 0");
    }

    private static void settings() {
        Told.run("0: the part of the price for a place: 4 or 5, at first 5;", "setting 0 -> 5", "set 0 4 -> 5",
                "set 0 3" + ARGUMENT, "set 0 6" + ARGUMENT, "setting 0 -> 4");
        Told.run("1: the greatest loss, 0 to 99999, that is borne, at first 10000.", "setting 1 -> 10000", "horse 50 1",
                "take 0 200 false", "safeShare -> 1.0", "take 0 1 false", "safeShare -> 0.0", "set 1 10050 -> 10000",
                "safeShare -> 1.0", "set 1 100000" + ARGUMENT, "set 1 -1" + ARGUMENT, "set 1 99999 -> 10050",
                "set 1 0 -> 99999");
    }

    private static void inputText() {
        Told.run("The buffer has at most 30 characters.", "29 x append 'b'", "append 'c' -> 30", "append 'd'" + STATE,
                "clearBuffer -> 30");
        Told.run("An arrival as a text is one or more letters, \"a\" to \"j\", with \">\" (arrives ahead of) or "
                + "\"=\" (together with) between them; no letter stands twice.",
                "10 x horse 1 1", "take 0 1 false", "type j", "ifArrived -> 10000001", "type a", "ifArrived -> 9999999",
                "type a=j", "ifArrived -> 10000001", "type j>a", "ifArrived -> 10000001", "type a>j",
                "ifArrived -> 9999999", "type a>a", "ifArrived -> -1", "type aj", "ifArrived -> -1", "type a>k",
                "ifArrived -> -1", "type a>", "ifArrived -> -1");
        Told.run("The buffer is read from left to right; a character is a syntax error if no arrival as a text, of "
                + "any length, begins with the characters before it and this character.", "type c=d>e=", "firstError -> 6",
                "append 'c'", "firstError -> 6", "type c=d>e=f>>", "firstError -> 8", "type d=d=d", "firstError -> 2",
                "type =c", "firstError -> 0", "type b>a=d>c=f>e=h>g=j>i", "firstError -> 19", "append '='",
                "firstError -> 19");
        Told.run("(Whether there are such horses does not matter for this.)", "type g>h", "firstError -> 3", "horse 1 1",
                "withdraw 0", "type a>b", "firstError -> 3", "ifArrived -> -1");
    }

    private static void snapshots() {
        Told.run("There are two slots; a snapshot is all but the buffer, the slots and the saved states.", "horse 6 5",
                "take 0 9 true", "layOff 0 8 7 6", "set 1 44", "type a", "keep 1 -> 1", "goBack 0" + STATE, "keep 0 -> 1",
                "keep 2" + ARGUMENT, "settle", "type ab", "goBack 1 -> 1", "clearBuffer -> 2", "count 13 -> 6",
                "count 8 -> 0", "bet 0 1 -> 9", "laid 0 3 -> 6", "setting 1 -> 44", "horseOf 0 0 -> 6", "goBack 0 -> 1");
    }

    private static void savedStates() {
        Told.run("Each method that is marked \"undoable\" and does not throw an exception saves the state from "
                + "before it (also if it changes nothing): all but the buffer, the slots and the saved states.",
                "horse 2 1", "count 13 -> 1", "price 0 2 1 -> 0", "count 13 -> 2", "set 0 5 -> 5", "count 13 -> 3",
                "set 0 7" + ARGUMENT, "count 13 -> 3", "keep 0", "append 'a'", "count 13 -> 3", "undo -> 2",
                "clearBuffer -> 1", "goBack 0 -> 0", "count 13 -> 3", "undo -> 2", "undo -> 1", "count 0 -> 1", "undo -> 0",
                "count 0 -> 0");
        Told.run("At most 6 states are saved; the oldest one is dropped first.", "9 x horse 2 1", "count 13 -> 6",
                "6 x undo", "count 0 -> 3", "undo" + STATE);
    }

    private static void exceptions() {
        Told.run("A call that throws an exception changes nothing.", "2 x horse 2 1", "take 0 5 true", "layOff 1 5 1 1",
                "withdraw 1", "keep 0", "type a>b", "horse 2 21" + ARGUMENT, "price 1 2 2" + STATE, "take 1 5 true" + STATE,
                "layOff 0 5 0 1" + ARGUMENT, "withdraw 1" + STATE, "settle" + ARGUMENT, "set 1 -5" + ARGUMENT,
                "append 32" + ARGUMENT, "keep 3" + ARGUMENT, "goBack 1" + STATE, "horseOf 0 9" + ARGUMENT,
                "bet 1 0" + INDEX, "laid 0 5" + ARGUMENT, "count 14" + ARGUMENT, "setting 2" + INDEX, "ifWon 2" + INDEX,
                "cover 2" + INDEX);
        Told.run("If several exceptions apply, the one that is named first in the throws clause is thrown.", "horse 2 1",
                "type a", "settle", "horse 0 1" + ARGUMENT, "price 1 0 1" + INDEX, "price 0 0 1" + ARGUMENT,
                "take 1 0 true" + INDEX, "take 0 0 true" + ARGUMENT, "layOff 1 0 1 1" + INDEX, "layOff 0 1 1 0" + ARGUMENT,
                "withdraw 1" + INDEX, "settle" + ARGUMENT, "set 2 0" + INDEX, "set 0 0" + ARGUMENT, "goBack 2" + ARGUMENT,
                "horseOf 1 9" + INDEX, "bet 0 8" + INDEX, "laid 0 5" + INDEX, "30 x append 'a'", "append 127" + ARGUMENT);
    }
}
