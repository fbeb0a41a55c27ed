/** "Snapshots, undo" and the promises 12, 13 and 14 at their limits. */
public final class SavedEdgesTest {
    private static final String ARGUMENT = " -> throws IllegalArgument";
    private static final String INDEX = " -> throws IndexOutOfBounds";
    private static final String STATE = " -> throws IllegalState";

    /** Each of the undoable calls, but settle and goBack, which need a text or a snapshot. */
    private static final String[] UNDOABLE = {"horse 7 4", "price 0 9 1", "take 1 100 true", "layOff 0 30 5 2",
        "withdraw 2", "set 0 4", "set 1 77"};

    private static final String[] THREE = {"3 x horse 2 1"};

    public static void main(String[] args) {
        slots();
        whatASnapshotIs();
        keep();
        goBack();
        undoable();
        notUndoable();
        refusedSavesNothing();
        atMostSix();
        aroundTheSix();
        undo();
        undoOfEach();
        everyPart();
        Check.end();
    }

    private static void three(String sentence, String... rows) {
        Told.run(sentence, Told.rows(THREE, rows));
    }

    private static void slots() {
        three("There are two slots", "keep 0 -> 0", "keep 1 -> 0", "keep -1" + ARGUMENT, "keep 2" + ARGUMENT,
                "keep min" + ARGUMENT, "keep max" + ARGUMENT, "goBack 0 -> 0", "goBack 1 -> 0", "goBack -1" + ARGUMENT,
                "goBack 2" + ARGUMENT, "goBack min" + ARGUMENT, "goBack max" + ARGUMENT);
        three("A slot out of range is told first, though no slot has a snapshot", "goBack -1" + ARGUMENT, "goBack 2" + ARGUMENT,
                "goBack 0" + STATE, "goBack 1" + STATE);
        three("The slots are not the same", "keep 1", "goBack 0" + STATE, "take 0 5 false", "keep 0 -> 1", "take 0 5 false",
                "goBack 1 -> 0", "goBack 0 -> 1", "goBack 1 -> 0");
        three("The second slot is empty while the first is not", "keep 0", "goBack 1" + STATE, "goBack 0 -> 0");
    }

    private static void whatASnapshotIs() {
        three("A snapshot has no buffer", "type a>b", "keep 0", "type c", "goBack 0", "clearBuffer -> 1", "undo",
                "clearBuffer -> 0");
        three("A snapshot has no slots", "keep 0", "keep 1", "take 0 5 false", "keep 1", "goBack 0 -> 0", "goBack 1 -> 1");
        three("A snapshot has no slots: one that was full later stays full", "keep 0", "take 0 5 false", "keep 1",
                "goBack 0 -> 0", "goBack 1 -> 1");
        three("A snapshot has no saved states", "keep 0", "take 0 5 false", "count 13 -> 4", "goBack 0", "count 13 -> 5",
                "undo -> 4", "count 2 -> 1", "undo -> 3", "count 2 -> 0", "undo -> 2", "count 0 -> 2");
        three("A saved state has no buffer", "type a", "take 0 5 false", "type b>c", "undo", "clearBuffer -> 3");
        three("A saved state has no slots", "take 0 5 false", "keep 0 -> 1", "undo", "goBack 0 -> 1");
    }

    private static void keep() {
        Told.run("keep of an empty book", "keep 0 -> 0", "horse 1 1", "goBack 0 -> 0", "count 0 -> 0", "undo -> 1", "count 0 -> 1");
        three("keep returns how many bets there are, 0 to 24", "keep 0 -> 0", "take 0 1 false", "keep 0 -> 1",
                "23 x take 0 1 false", "keep 1 -> 24", "goBack 0 -> 1", "goBack 1 -> 24");
        three("keep takes a snapshot in place of the one in the slot", "keep 0 -> 0", "take 0 1 false", "keep 0 -> 1",
                "undo", "goBack 0 -> 1");
        three("keep of a settled race", "take 0 10 false", "type a", "settle", "keep 1 -> 1", "undo", "count 8 -> 0",
                "goBack 1 -> 1", "count 8 -> 1", "bet 0 6 -> 30", "horseOf 0 7 -> 1", "take 0 1 false" + STATE);
    }

    private static void goBack() {
        three("goBack: a snapshot stays", "keep 0", "take 0 1 false", "goBack 0 -> 0", "take 1 2 false", "goBack 0 -> 0",
                "goBack 0 -> 0", "count 2 -> 0");
        three("goBack: what comes later does not change the snapshot", "take 0 1 false", "keep 0 -> 1", "goBack 0",
                "price 0 100 1", "withdraw 1", "take 0 5 true", "set 1 5", "layOff 0 1 1 1", "goBack 0 -> 1",
                "horseOf 0 0 -> 2", "horseOf 1 2 -> 1", "bet 0 5 -> 0", "horseOf 0 4 -> 1", "setting 1 -> 10000",
                "count 3 -> 0");
        three("goBack: undoable", "keep 0", "take 0 1 false", "goBack 0 -> 0", "count 13 -> 5", "undo -> 4", "count 2 -> 1");
        three("goBack: from a settled race to one that is not", "take 0 10 false", "keep 0", "type a", "settle", "goBack 0 -> 1",
                "count 8 -> 0", "bet 0 6 -> -1", "bet 0 7 -> -1", "horseOf 0 7 -> -1", "count 11 -> 0", "count 12 -> 0",
                "take 0 1 false -> 1", "undo", "undo", "count 8 -> 1", "bet 0 6 -> 30");
        Told.run("goBack: to an empty book from a full one", "keep 0", "10 x horse 2 1", "24 x take 9 1 false",
                "6 x layOff 9 1 1 1", "goBack 0 -> 0", "count 0 -> 0", "count 2 -> 0", "count 3 -> 0", "bet 0 0" + INDEX,
                "undo -> 5", "count 0 -> 10", "count 2 -> 24", "count 3 -> 6");
    }

    private static void undoable() {
        for (String call : UNDOABLE) {
            three("Undoable: " + call, "count 13 -> 3", call, "count 13 -> 4", "undo -> 3");
        }
        three("Undoable: settle", "type a", "count 13 -> 3", "settle", "count 13 -> 4", "undo -> 3", "count 8 -> 0");
        three("Undoable: goBack", "keep 0", "count 13 -> 3", "goBack 0", "count 13 -> 4", "undo -> 3");
        three("Saved also if it changes nothing", "price 0 2 1", "count 13 -> 4", "set 0 5", "count 13 -> 5", "set 1 10000",
                "count 13 -> 6", "undo -> 5", "undo -> 4", "undo -> 3", "count 0 -> 3");
        three("Saved also if goBack changes nothing", "keep 0", "goBack 0", "count 13 -> 4", "goBack 0", "count 13 -> 5",
                "undo -> 4", "undo -> 3", "count 0 -> 3");
    }

    private static void notUndoable() {
        three("Not undoable: keep", "keep 0", "keep 1", "count 13 -> 3");
        three("Not undoable: append", "append 'a'", "count 13 -> 3");
        three("Not undoable: clearBuffer", "clearBuffer", "count 13 -> 3");
        three("Not undoable: undo", "undo -> 2", "count 13 -> 2", "undo -> 1", "undo -> 0", "undo" + STATE, "count 0 -> 0");
        three("Not undoable: looks", "take 0 1 true", "layOff 0 1 1 1", "count 13 -> 5", "firstError", "horseOf 0 0", "bet 0 0",
                "laid 0 0", "count 0", "setting 0", "ifArrived", "ifWon 0", "worst", "cover 0", "safeShare", "digest",
                "count 13 -> 5");
    }

    /** A call that throws saves nothing: neither is there one state more, nor is the oldest of six dropped. */
    private static void refusedSavesNothing() {
        String[] refused = {"horse 0 1" + ARGUMENT, "price 3 1 1" + INDEX, "price 0 0 1" + ARGUMENT, "take 3 1 true" + INDEX,
            "take 0 0 true" + ARGUMENT, "layOff 3 1 1 1" + INDEX, "layOff 0 0 1 1" + ARGUMENT, "withdraw 3" + INDEX,
            "settle" + ARGUMENT, "set 2 4" + INDEX, "set 0 3" + ARGUMENT, "goBack 0" + STATE, "goBack 2" + ARGUMENT};
        for (String call : refused) {
            three("A refused call saves nothing: " + call, call, "count 13 -> 3", "undo -> 2", "count 0 -> 2");
            three("A refused call drops nothing: " + call, "set 1 1", "set 1 2", "set 1 3", "count 13 -> 6", call,
                    "6 x undo", "count 0 -> 0");
        }
    }

    private static void atMostSix() {
        Told.run("At most 6 states are saved: 6 are", "5 x horse 1 1", "count 13 -> 5", "horse 1 1", "count 13 -> 6",
                "undo -> 5", "undo -> 4", "undo -> 3", "undo -> 2", "undo -> 1", "undo -> 0", "count 0 -> 0", "undo" + STATE);
        Told.run("At most 6 states are saved: of 7 the oldest one is dropped", "7 x horse 1 1", "count 13 -> 6", "undo -> 5",
                "undo -> 4", "undo -> 3", "undo -> 2", "undo -> 1", "undo -> 0", "count 0 -> 1", "undo" + STATE);
        Told.run("At most 6 states are saved: of 8 the oldest two are dropped", "8 x horse 1 1", "count 13 -> 6", "5 x undo",
                "count 0 -> 3", "undo -> 0", "count 0 -> 2", "undo" + STATE);
        Told.run("At most 6 states are saved: goBack drops the oldest, too", "6 x horse 1 1", "keep 0", "goBack 0",
                "count 13 -> 6", "5 x undo", "count 0 -> 2", "undo -> 0", "count 0 -> 1", "undo" + STATE);
    }

    /** The room of the saved states is used again and again; each number of turns must come out alike. */
    private static void aroundTheSix() {
        for (int more = 0; more <= 14; more++) {
            FieldBook book = Told.book("horse 1 1");
            for (int value = 1; value <= 10 + more; value++) {
                book.set(1, value);
            }
            int latest = 10 + more;
            for (int left = 5; left >= 3; left--) {
                Check.due("undo, around by " + more, book.undo(), left);
                latest--;
                Check.due("setting 1, around by " + more, book.setting(1), latest);
            }
            for (int value = 500; value < 500 + more; value++) {
                book.set(1, value);
            }
            Check.due("saved states, around by " + more, book.count(13), Math.min(6, 3 + more));
            int left = Math.min(6, 3 + more);
            for (int step = 1; step <= left; step++) {
                Check.due("undo again, around by " + more, book.undo(), left - step);
                int value = step < more ? 499 + more - step : latest - (step - more);
                Check.due("setting 1 again, around by " + more, book.setting(1), value);
            }
            Check.refused("undo of none, around by " + more, book, Check.STATE, () -> book.undo());
        }
    }

    private static void undo() {
        Told.run("undo: there is none", "undo" + STATE, "horse 1 1", "undo -> 0", "undo" + STATE, "horse 1 1 -> 0");
        Told.run("undo: restores the latest, and drops it", "horse 1 1", "horse 2 1", "undo -> 1", "count 0 -> 1", "undo -> 0",
                "count 0 -> 0");
        three("undo: of goBack, of settle, and of what is ahead of them", "take 0 10 false", "keep 0", "type a", "settle",
                "goBack 0", "undo -> 5", "count 8 -> 1", "undo -> 4", "count 8 -> 0", "undo -> 3", "count 2 -> 0");
        three("undo: from a settled race", "type a", "settle", "set 1 5" + STATE, "undo -> 3", "set 1 5 -> 10000");
    }

    private static void undoOfEach() {
        three("undo of horse", "horse 9 9", "undo", "count 0 -> 3", "horseOf 3 0" + INDEX);
        three("undo of price", "price 0 9 9", "undo", "horseOf 0 0 -> 2", "horseOf 0 1 -> 1");
        three("undo of take", "take 0 9 true", "undo", "count 2 -> 0", "count 4 -> 0", "horseOf 0 4 -> 0", "horseOf 0 5 -> 0",
                "horseOf 0 6 -> 0");
        three("undo of layOff", "layOff 0 9 1 1", "undo", "count 3 -> 0", "count 5 -> 0");
        three("undo of withdraw", "take 0 9 true", "withdraw 1", "undo", "horseOf 1 2 -> 1", "horseOf 1 3 -> 0", "bet 0 5 -> 0",
                "count 1 -> 3");
        three("undo of set", "set 0 4", "set 1 4", "undo", "undo", "setting 0 -> 5", "setting 1 -> 10000");
        three("undo of settle", "take 0 9 true", "layOff 0 9 1 1", "type a=b>c", "settle", "undo", "bet 0 6 -> -1",
                "bet 0 7 -> -1", "laid 0 4 -> -1", "horseOf 0 7 -> -1", "horseOf 0 8 -> -1", "count 6 -> 0", "count 7 -> 0",
                "count 8 -> 0", "count 11 -> 0", "count 12 -> 0");
    }

    /** The last horse, the last bet and the last bet laid off are of the state like the first. */
    private static void everyPart() {
        String[] full = {"9 x horse 2 1", "horse 99 19", "23 x take 0 1 false", "take 9 77 true", "5 x layOff 0 1 1 1",
            "layOff 9 66 98 18", "keep 1"};
        Told.run("A snapshot has all horses and bets", Told.rows(full, new String[] {"keep 0", "price 9 1 1", "withdraw 9",
            "goBack 0 -> 24", "horseOf 9 0 -> 99", "horseOf 9 1 -> 19", "horseOf 9 2 -> 1", "horseOf 9 6 -> 77",
            "bet 23 0 -> 9", "bet 23 1 -> 77", "bet 23 4 -> 19", "bet 23 5 -> 0", "bet 23 7 -> -1", "laid 5 1 -> 66",
            "laid 5 2 -> 98", "laid 5 3 -> 18", "laid 5 4 -> -1"}));
        Told.run("A saved state has all horses and bets", Told.rows(full, new String[] {"withdraw 9", "type a", "settle",
            "bet 23 6 -> 154", "laid 5 4 -> 66", "undo", "bet 23 6 -> -1", "laid 5 4 -> -1", "bet 23 5 -> 16", "undo",
            "horseOf 9 0 -> 99", "horseOf 9 1 -> 19", "horseOf 9 2 -> 1", "bet 23 5 -> 0", "bet 23 4 -> 19",
            "laid 5 3 -> 18"}));
        Told.run("A snapshot of a settled race has all horses and bets", Told.rows(full, new String[] {"type j", "settle",
            "keep 0", "goBack 1", "goBack 0 -> 24", "horseOf 9 7 -> 1", "horseOf 9 8 -> 1", "bet 23 7 -> 2",
            "laid 5 4 -> 425"}));
    }
}
