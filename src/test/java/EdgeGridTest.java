import java.util.ArrayList;
import java.util.List;

/**
 * In each of several states each call with each of its arguments at, just inside and just outside of its limits: it must
 * answer or throw as PlainBook does, and leave the same state; and all that were refused must together change nothing.
 */
public final class EdgeGridTest {
    /** A book is given up ahead of so many calls: what an object answers is promised for 512. */
    private static final int MOST_CALLS = 480;

    private static final String[] HORSES = {"min", "-1", "0", "1", "4", "5", "9", "10", "max"};
    private static final String[] SLOTS = {"min", "-1", "0", "1", "2", "max"};

    private static final String[][] STATES = {
        {},
        {"horse 1 1"},
        {"horse 1 20", "horse 100 1", "take 0 1 true", "layOff 1 9999 100 20", "type b"},
        {"5 x horse 7 3", "take 0 9999 true", "take 1 3 false", "keep 0", "layOff 0 7 5 2", "type a=b>c"},
        {"6 x horse 7 3", "take 5 50 true", "take 1 3 true", "withdraw 5", "keep 1", "type b>f"},
        {"2 x horse 1 3", "8 x horse 3 1", "take 2 999 true", "withdraw 0", "withdraw 1", "type c=d=e>f"},
        {"9 x horse 2 1", "set 0 4", "set 1 0", "23 x take 4 77 true", "5 x layOff 4 9999 1 20", "type e"},
        {"10 x horse 100 1", "23 x take 9 9999 true", "take 0 1 false", "6 x layOff 1 9999 100 1", "keep 0", "keep 1",
            "type j>a>b"},
        {"10 x horse 1 1", "24 x take 5 100 true", "6 x layOff 5 100 2 1", "type a>b>c>d>e>f>g>h>i>j>a>b>c>d>e>"},
        {"10 x horse 1 1", "6 x undo", "type a>b>c"},
        {"5 x horse 5 2", "take 0 100 true", "take 1 50 false", "keep 0", "layOff 1 20 3 1", "type a>b", "settle", "type b"},
        {"10 x horse 5 2", "24 x take 9 100 true", "6 x layOff 1 20 3 1", "withdraw 0", "type b=j", "settle", "keep 1"},
        {"2 x horse 5 2", "take 0 100 true", "withdraw 0", "withdraw 1", "keep 0", "type a"},
        {"horse 5 2", "type a", "keep 0", "settle", "goBack 0", "undo", "type a"},
    };

    private static int answered = 0;
    private static int refused = 0;

    public static void main(String[] args) {
        List<String> calls = calls();
        for (int state = 0; state < STATES.length; state++) {
            looksAndRefusals(state, calls);
            changes(state, calls);
        }
        Check.due("calls that were answered", answered > 500 ? 1 : 0, 1);
        Check.due("calls that were refused", refused > 10000 ? 1 : 0, 1);
        Check.end();
    }

    private static List<String> calls() {
        List<String> calls = new ArrayList<>(List.of("settle", "clearBuffer", "firstError", "undo", "ifArrived", "worst",
                "safeShare", "digest"));
        String[] a = {"min", "0", "1", "100", "101", "max"};
        String[] b = {"min", "0", "1", "20", "21", "max"};
        String[] stakes = {"min", "0", "1", "9999", "10000", "max"};
        String[] flags = {"true", "false"};
        String[] codes = {"min", "-1", "0", "32", "33", "60", "61", "62", "63", "96", "97", "98", "106", "107", "126", "127",
            "max"};
        String[] values = {"min", "-1", "0", "3", "4", "5", "6", "99999", "100000", "max"};
        String[] what = {"min", "-1", "0", "1", "2", "3", "4", "5", "6", "7", "8", "9", "10", "11", "12", "13", "14", "max"};
        String[] bets = {"min", "-1", "0", "1", "5", "6", "22", "23", "24", "max"};
        add(calls, "horse", a, b);
        add(calls, "price", HORSES, a, b);
        add(calls, "take", HORSES, stakes, flags);
        add(calls, "layOff", HORSES, stakes, new String[] {"0", "1", "100", "101"}, new String[] {"0", "1", "20", "21"});
        add(calls, "withdraw", HORSES);
        add(calls, "set", SLOTS, values);
        add(calls, "append", codes);
        add(calls, "keep", SLOTS);
        add(calls, "goBack", SLOTS);
        add(calls, "horseOf", HORSES, what);
        add(calls, "bet", bets, what);
        add(calls, "laid", bets, what);
        add(calls, "count", what);
        add(calls, "setting", SLOTS);
        add(calls, "ifWon", HORSES);
        add(calls, "cover", HORSES);
        return calls;
    }

    /** Each way to choose one of each row of arguments. */
    private static void add(List<String> calls, String name, String[]... rows) {
        List<String> begun = List.of(name);
        for (String[] row : rows) {
            List<String> longer = new ArrayList<>();
            for (String beginning : begun) {
                for (String argument : row) {
                    longer.add(beginning + " " + argument);
                }
            }
            begun = longer;
        }
        calls.addAll(begun);
    }

    /** Plays the rows on a book or a PlainBook, and tells how many calls that took. */
    private static int played(Object book, String[] rows) {
        int calls = 0;
        for (String row : rows) {
            int times = row.matches("\\d+ x .*") ? Integer.parseInt(row.substring(0, row.indexOf(' '))) : 1;
            for (int time = 0; time < times; time++) {
                Told.answer(book, row.substring(row.indexOf(" x ") < 0 ? 0 : row.indexOf(" x ") + 3));
                calls += row.startsWith("type") ? row.length() : 1;
            }
        }
        return calls;
    }

    private static boolean isLook(String call) {
        return Told.LOOKS.contains(call.split(" ")[0]);
    }

    /** All calls that change nothing, many of them on one book, which must stay as it was. */
    private static void looksAndRefusals(int state, List<String> calls) {
        PlainBook plain = new PlainBook();
        played(plain, STATES[state]);
        FieldBook book = null;
        int done = MOST_CALLS;
        for (String call : calls) {
            if (!isLook(call) && !throwsIn(state, call)) {
                continue;
            }
            if (done >= MOST_CALLS) {
                staysAsItWas(state, book);
                book = new FieldBook();
                done = played(book, STATES[state]);
            }
            Check.due("state " + state + ", " + call, Told.answer(book, call), Told.answer(plain, call));
            done++;
        }
        staysAsItWas(state, book);
    }

    private static boolean throwsIn(int state, String call) {
        PlainBook plain = new PlainBook();
        played(plain, STATES[state]);
        boolean thrown = Told.answer(plain, call).startsWith("throws");
        if (thrown) {
            refused++;
        }
        return thrown;
    }

    private static void staysAsItWas(int state, FieldBook book) {
        if (book == null) {
            return;
        }
        FieldBook twin = new FieldBook();
        played(twin, STATES[state]);
        for (int step = 0; step < 8; step++) {
            Check.due("state " + state + " stays as it was, step " + step, book.digest(), twin.digest());
            String call = step == 2 ? "goBack 0" : step == 5 ? "goBack 1" : "undo";
            Check.due("state " + state + " stays as it was, step " + step, Told.answer(book, call), Told.answer(twin, call));
        }
    }

    /** Each call that changes something, on a new book, and what is there when it is undone. */
    private static void changes(int state, List<String> calls) {
        for (String call : calls) {
            PlainBook plain = new PlainBook();
            played(plain, STATES[state]);
            if (isLook(call)) {
                continue;
            }
            String want = Told.answer(plain, call);
            if (want.startsWith("throws")) {
                continue;
            }
            answered++;
            FieldBook book = new FieldBook();
            played(book, STATES[state]);
            String place = "state " + state + ", " + call;
            Check.due(place, Told.answer(book, call), want);
            Check.due(place + ": digest", Told.answer(book, "digest"), Told.answer(plain, "digest"));
            Check.due(place + ": undo", Told.answer(book, "undo"), Told.answer(plain, "undo"));
            Check.due(place + ": digest then", Told.answer(book, "digest"), Told.answer(plain, "digest"));
        }
    }
}
