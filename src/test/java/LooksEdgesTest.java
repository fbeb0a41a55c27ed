/** Promises 15 to 19 at their limits: horseOf, bet, laid, count, setting. */
public final class LooksEdgesTest {
    private static final String ARGUMENT = " -> throws IllegalArgument";
    private static final String INDEX = " -> throws IndexOutOfBounds";

    /** Six horses, one of them withdrawn, four bets and two laid off. */
    private static final String[] BOOK = {"5 x horse 3 2", "horse 3 1", "take 0 100 true", "take 1 40 false",
        "take 5 7 true", "layOff 1 20 5 2", "withdraw 5", "take 0 9 false", "layOff 4 10 100 20"};

    public static void main(String[] args) {
        horseOf();
        bet();
        laid();
        countRange();
        countOfHorses();
        countOfStakes();
        countOfReturns();
        countOfTheRound();
        countOfWinnings();
        setting();
        Check.end();
    }

    private static void book(String sentence, String... rows) {
        Told.run(sentence, Told.rows(BOOK, rows));
    }

    /** Each column of a table, asked in turn. */
    private static void columns(String sentence, String[] rows, String look, int... want) {
        String[] asked = new String[want.length];
        for (int what = 0; what < want.length; what++) {
            asked[what] = look + " " + what + " -> " + want[what];
        }
        Told.run(sentence, Told.rows(BOOK, rows, asked));
    }

    private static void horseOf() {
        String[] none = {};
        String[] settled = {"type b>a=c", "settle"};
        columns("horseOf: all of a horse that runs", none, "horseOf 0", 3, 2, 1, 0, 2, 109, 100, -1, -1);
        columns("horseOf: all of a horse without bets", none, "horseOf 2", 3, 2, 1, 0, 0, 0, 0, -1, -1);
        columns("horseOf: all of a withdrawn horse", none, "horseOf 5", 3, 1, 0, 25, 1, 7, 7, -1, -1);
        columns("horseOf: all of a horse that is told", settled, "horseOf 0", 3, 2, 1, 0, 2, 109, 100, 2, 2);
        columns("horseOf: all of a horse that is not told", settled, "horseOf 3", 3, 2, 1, 0, 0, 0, 0, -1, -1);
        columns("horseOf: all of a withdrawn horse when settled", settled, "horseOf 5", 3, 1, 0, 25, 1, 7, 7, -1, -1);
        book("horseOf: there is no such horse", "horseOf -1 0" + INDEX, "horseOf 6 0" + INDEX, "horseOf 9 0" + INDEX,
                "horseOf 10 0" + INDEX, "horseOf min 0" + INDEX, "horseOf max 0" + INDEX, "horseOf 5 0 -> 3");
        book("horseOf: what is 0 to 8", "horseOf 0 -1" + ARGUMENT, "horseOf 0 9" + ARGUMENT, "horseOf 0 min" + ARGUMENT,
                "horseOf 0 max" + ARGUMENT, "horseOf 0 0 -> 3", "horseOf 0 8 -> -1");
        book("horseOf: no such horse is told first", "horseOf 6 9" + INDEX, "horseOf -1 -1" + INDEX);
        Told.run("horseOf: the horse with the number 9", "10 x horse 7 4", "horseOf 9 0 -> 7", "horseOf 9 1 -> 4",
                "horseOf 10 0" + INDEX);
        Told.run("horseOf: the most stakes on a horse", "horse 1 1", "24 x take 0 9999 true", "horseOf 0 4 -> 24",
                "horseOf 0 5 -> 239976", "horseOf 0 6 -> 239976");
    }

    private static void bet() {
        String[] none = {};
        String[] settled = {"type a>b", "settle"};
        columns("bet: all of one each way", none, "bet 0", 0, 100, 1, 3, 2, 25, -1, -1);
        columns("bet: all of one to win", none, "bet 1", 1, 40, 0, 3, 2, 25, -1, -1);
        columns("bet: all of one on a withdrawn horse", none, "bet 2", 5, 7, 1, 3, 1, 25, -1, -1);
        columns("bet: all of one behind the withdrawal", none, "bet 3", 0, 9, 0, 3, 2, 0, -1, -1);
        columns("bet: all of one each way that won", settled, "bet 0", 0, 100, 1, 3, 2, 25, 334, 2);
        columns("bet: all of one that lost", settled, "bet 1", 1, 40, 0, 3, 2, 25, 0, 0);
        columns("bet: all of one on a withdrawn horse, settled", settled, "bet 2", 5, 7, 1, 3, 1, 25, 14, 1);
        columns("bet: all of one without cuts that won", settled, "bet 3", 0, 9, 0, 3, 2, 0, 22, 2);
        book("bet: there is no such bet", "bet -1 0" + INDEX, "bet 4 0" + INDEX, "bet 23 0" + INDEX, "bet 24 0" + INDEX,
                "bet min 0" + INDEX, "bet max 0" + INDEX, "bet 3 0 -> 0");
        book("bet: what is 0 to 7", "bet 0 -1" + ARGUMENT, "bet 0 8" + ARGUMENT, "bet 0 min" + ARGUMENT, "bet 0 max" + ARGUMENT,
                "bet 0 0 -> 0", "bet 0 7 -> -1");
        book("bet: no such bet is told first", "bet 4 8" + INDEX, "bet -1 -1" + INDEX);
        Told.run("bet: the bet with the number 23", "2 x horse 1 1", "23 x take 0 1 false", "take 1 9999 true",
                "bet 23 0 -> 1", "bet 23 1 -> 9999", "bet 23 2 -> 1", "bet 22 2 -> 0", "bet 24 0" + INDEX);
        Told.run("bet: no bets", "horse 1 1", "bet 0 0" + INDEX, "bet 0 8" + INDEX);
        Told.run("bet: one that is undone is not there", "horse 1 1", "take 0 1 true", "undo", "bet 0 0" + INDEX);
    }

    private static void laid() {
        String[] none = {};
        String[] settled = {"type b", "settle"};
        columns("laid: all of one", none, "laid 0", 1, 20, 5, 2, -1);
        columns("laid: all of another", none, "laid 1", 4, 10, 100, 20, -1);
        columns("laid: all of one that won", settled, "laid 0", 1, 20, 5, 2, 70);
        columns("laid: all of one that lost", settled, "laid 1", 4, 10, 100, 20, 0);
        columns("laid: all of one on a withdrawn horse", new String[] {"withdraw 4", "type b", "settle"}, "laid 1",
                4, 10, 100, 20, 10);
        book("laid: there is no such bet", "laid -1 0" + INDEX, "laid 2 0" + INDEX, "laid 5 0" + INDEX, "laid 6 0" + INDEX,
                "laid min 0" + INDEX, "laid max 0" + INDEX, "laid 1 0 -> 4");
        book("laid: what is 0 to 4", "laid 0 -1" + ARGUMENT, "laid 0 5" + ARGUMENT, "laid 0 min" + ARGUMENT,
                "laid 0 max" + ARGUMENT, "laid 0 0 -> 1", "laid 0 4 -> -1");
        book("laid: no such bet is told first", "laid 2 5" + INDEX, "laid -1 -1" + INDEX);
        Told.run("laid: the bet with the number 5", "2 x horse 1 1", "5 x layOff 0 1 1 1", "layOff 1 9999 100 20",
                "laid 5 0 -> 1", "laid 5 1 -> 9999", "laid 5 2 -> 100", "laid 5 3 -> 20", "laid 6 0" + INDEX);
        Told.run("laid: none", "horse 1 1", "take 0 1 true", "laid 0 0" + INDEX, "laid 0 5" + INDEX);
    }

    private static void countRange() {
        Told.run("count: what is 0 to 13, in an empty book", "count -1" + ARGUMENT, "count 14" + ARGUMENT,
                "count min" + ARGUMENT, "count max" + ARGUMENT, "count 0 -> 0", "count 13 -> 0");
        book("count: what is 0 to 13", "count -1" + ARGUMENT, "count 14" + ARGUMENT, "count min" + ARGUMENT,
                "count max" + ARGUMENT, "count 0 -> 6", "count 13 -> 6");
        book("count: what is 0 to 13, when settled", "type a", "settle", "count -1" + ARGUMENT, "count 14" + ARGUMENT,
                "count 13 -> 6");
        columns("count: all when open", new String[] {}, "count", 6, 5, 4, 2, 263, 30, 0, 0, 0, 2, 2000, 0, 0, 6);
        // 334 + 0 + 14 + 22 of 263 are returned, and 30 are lost with others
        columns("count: all when settled", new String[] {"type a>b", "settle"}, "count", 6, 5, 4, 2, 263, 30, 370, 0, 1, 2,
                2000, 9999863, 9999863, 6);
    }

    private static void countOfHorses() {
        Told.run("count 0 and 1: 0 to 10", "count 0 -> 0", "count 1 -> 0", "horse 1 1", "count 0 -> 1", "count 1 -> 1",
                "9 x horse 1 1", "count 0 -> 10", "count 1 -> 10", "withdraw 9", "count 0 -> 10", "count 1 -> 9");
        Told.run("count 2 and 3: 0 to 24, and 0 to 6", "horse 1 1", "count 2 -> 0", "count 3 -> 0", "24 x take 0 1 false",
                "6 x layOff 0 1 1 1", "count 2 -> 24", "count 3 -> 6");
    }

    private static void countOfStakes() {
        Told.run("count 4: all stakes of bets, those for a place, too", "2 x horse 1 1", "count 4 -> 0", "take 0 1 false",
                "count 4 -> 1", "take 0 1 true", "count 4 -> 3", "withdraw 0", "count 4 -> 3", "layOff 1 5 1 1", "count 4 -> 3");
        Told.run("count 4: the most", "horse 1 1", "24 x take 0 9999 true", "count 4 -> 479952");
        Told.run("count 5: all stakes laid off", "2 x horse 1 1", "count 5 -> 0", "layOff 0 1 1 1", "count 5 -> 1",
                "take 0 5 true", "count 5 -> 1", "withdraw 0", "count 5 -> 1", "5 x layOff 1 9999 1 1", "count 5 -> 49996");
    }

    private static void countOfReturns() {
        Told.run("count 6 and 7: 0 if the race is not settled", "2 x horse 1 1", "take 0 5 false", "layOff 0 7 1 1",
                "type a", "count 6 -> 0", "count 7 -> 0", "count 8 -> 0", "settle", "count 6 -> 10", "count 7 -> 14",
                "count 8 -> 1", "undo", "count 6 -> 0", "count 7 -> 0", "count 8 -> 0");
        Told.run("count 6 and 7: 0 if nothing is returned", "2 x horse 1 1", "take 0 5 false", "layOff 0 7 1 1", "type b",
                "settle", "count 6 -> 0", "count 7 -> 0", "count 8 -> 1", "count 11 -> 9999998", "count 12 -> 9999998");
        Told.run("count 6 and 7: withdrawn horses' stakes are returned", "3 x horse 1 1", "take 0 5 true", "layOff 0 7 1 1",
                "withdraw 0", "type b", "settle", "count 6 -> 10", "count 7 -> 7", "count 11 -> 10000000",
                "count 12 -> 10000000");
    }

    private static void countOfTheRound() {
        Told.run("count 10: each rounded down, together", "horse 2 1", "count 10 -> 333", "horse 2 1", "count 10 -> 666",
                "horse 2 1", "count 10 -> 999", "withdraw 1", "count 10 -> 666", "price 0 1 1", "count 10 -> 833");
        Told.run("count 10: the least and the most of a horse", "horse 100 1", "count 10 -> 9", "horse 1 20",
                "count 10 -> 961", "withdraw 0", "count 10 -> 952", "withdraw 1", "count 10 -> 0");
        Told.run("count 10: the most of all", "10 x horse 1 20", "count 10 -> 9520");
        Told.run("count 10: without remainder, and with the greatest", "horse 1 1", "count 10 -> 500", "price 0 99 1",
                "count 10 -> 10", "price 0 98 1", "count 10 -> 10", "price 0 89 1", "count 10 -> 11");
    }

    private static void countOfWinnings() {
        Told.run("count 11 and 12: 0 if the race is not settled, be there bets or none", "count 11 -> 0", "count 12 -> 0",
                "2 x horse 1 1", "take 0 5 false", "count 11 -> 0", "count 12 -> 0");
        Told.run("count 11 and 12: 10000000 if nothing is won", "horse 1 1", "type a", "settle -> 10000000",
                "count 11 -> 10000000", "count 12 -> 10000000");
        Told.run("count 11 and 12: a penny won and a penny lost", "2 x horse 1 1", "take 0 1 false", "type b",
                "settle -> 10000001", "count 11 -> 10000001", "count 12 -> 10000001", "undo", "type a", "settle -> 9999999",
                "count 11 -> 9999999", "count 12 -> 9999999");
        Told.run("count 11 and 12: a penny won and lost with others", "2 x horse 1 1", "layOff 0 1 1 1", "type b",
                "settle -> 9999999", "count 11 -> 9999999", "count 12 -> 9999999", "undo", "type a", "settle -> 10000001",
                "count 11 -> 10000001", "count 12 -> 10000001");
        Told.run("count 13: saved states, 0 to 6", "count 13 -> 0", "horse 1 1", "count 13 -> 1", "5 x set 1 7", "count 13 -> 6",
                "set 1 7", "count 13 -> 6", "undo -> 5", "count 13 -> 5");
    }

    private static void setting() {
        book("setting: there is no such setting", "setting -1" + INDEX, "setting 2" + INDEX, "setting min" + INDEX,
                "setting max" + INDEX, "setting 0 -> 5", "setting 1 -> 10000");
        book("setting: when settled", "set 0 4", "set 1 99999", "type a", "settle", "setting 0 -> 4", "setting 1 -> 99999",
                "setting 2" + INDEX);
    }
}
