import java.lang.reflect.InvocationTargetException;
import java.lang.reflect.Method;
import java.util.ArrayList;
import java.util.Arrays;
import java.util.HashMap;
import java.util.List;
import java.util.Map;
import java.util.Set;

/**
 * Runs of calls on a new book, told as rows: "take 0 9999 true -> 23", "horse 0 1 -> throws IllegalArgument". A row
 * without an answer must not throw; "9 x horse 2 1" is called nine times; "type a>b" fills the buffer anew.
 *
 * <p>Each row that is refused, or only looks, must leave the digest as it is; and the book that was played with such
 * rows must show the same afterwards, in each of several ways to go on, as a twin that was played without them.
 */
final class Told {
    static final Set<String> LOOKS = Set.of("firstError", "horseOf", "bet", "laid", "count", "setting", "ifArrived",
            "ifWon", "worst", "cover", "safeShare", "digest");

    /** What a book answers is promised for so many calls. */
    private static final int MOST_CALLS = 512;

    private static final String BETWEEN = " -> ";
    private static final Map<Class<?>, Map<String, Method>> METHODS = new HashMap<>();

    /** Ways to go on after a run; what only a saved state, a slot or the buffer holds comes to light in one of them. */
    private static final String[][] WAYS = {
        {"digest", "count 13", "undo", "digest", "undo", "digest", "undo", "digest", "undo", "digest", "undo", "digest",
            "undo", "digest", "undo", "digest"},
        {"digest", "goBack 0", "digest", "goBack 1", "digest", "goBack 0", "digest", "undo", "digest", "clearBuffer"},
        {"firstError", "ifArrived", "settle", "digest", "undo", "clearBuffer", "append 'a'", "append '>'", "append 'b'",
            "settle", "digest", "undo", "horse 9 1", "take 0 5 true", "layOff 0 5 3 1", "price 0 8 3", "set 0 4",
            "set 1 3", "digest", "keep 1", "withdraw 0", "digest", "goBack 1", "digest"},
    };

    private Told() {
    }

    /** Plays the rows; what is due is what the rows tell, and that nothing else changes. */
    static void run(String sentence, String... rows) {
        for (String[] way : WAYS) {
            FieldBook asked = new FieldBook();
            int calls = 0;
            for (String row : rows) {
                calls += played(sentence, asked, row);
            }
            FieldBook twin = new FieldBook();
            for (String row : rows) {
                if (changes(row)) {
                    played(sentence, twin, row);
                }
            }
            for (String row : way) {
                Check.due(sentence + " / later " + row, answer(asked, row), answer(twin, row));
            }
            Check.due(sentence + " / calls within " + MOST_CALLS, calls + way.length <= MOST_CALLS ? 1 : 0, 1);
        }
    }

    /** A book after the rows, none of which may throw. */
    static FieldBook book(String... rows) {
        FieldBook book = new FieldBook();
        for (String row : rows) {
            played("a book", book, row);
        }
        return book;
    }

    static boolean changes(String row) {
        return !row.contains("throws ") && !LOOKS.contains(callOf(row).split(" ")[0]);
    }

    private static int timesOf(String row) {
        return row.matches("\\d+ x .*") ? Integer.parseInt(row.substring(0, row.indexOf(' '))) : 1;
    }

    private static String callOf(String row) {
        String call = row.split(BETWEEN)[0];
        return call.matches("\\d+ x .*") ? call.substring(call.indexOf(" x ") + 3) : call;
    }

    /** Plays a row, and tells how many calls that took. */
    private static int played(String sentence, FieldBook book, String row) {
        boolean same = !changes(row);
        String[] parts = row.split(BETWEEN);
        int calls = 0;
        for (int time = 0; time < timesOf(row); time++) {
            long before = same ? book.digest() : 0;
            String got = answer(book, callOf(row));
            if (parts.length > 1) {
                Check.due(sentence + " / " + row, got, parts[1]);
            } else if (got.startsWith("throws")) {
                Check.due(sentence + " / " + row, got, "an answer");
            }
            if (same) {
                Check.due(sentence + " / digest after " + row, book.digest(), before);
            }
            calls += same ? 3 : row.startsWith("type") ? 1 + row.length() : 1;
        }
        return calls;
    }

    /** What a call answers, or which exception it throws; the book may also be a PlainBook. */
    static String answer(Object book, String call) {
        String[] words = call.split(" ");
        if (words[0].equals("type")) {
            return typed(book, words.length > 1 ? words[1] : "");
        }
        Method method = methodOf(book.getClass(), words[0]);
        Object[] arguments = new Object[words.length - 1];
        for (int i = 0; i < arguments.length; i++) {
            arguments[i] = argument(words[i + 1]);
        }
        try {
            return String.valueOf(method.invoke(book, arguments));
        } catch (InvocationTargetException e) {
            return "throws " + e.getCause().getClass().getSimpleName().replace("Exception", "");
        } catch (IllegalAccessException | IllegalArgumentException e) {
            throw new IllegalStateException("no such call: " + call, e);
        }
    }

    private static String typed(Object book, String text) {
        String length = "0";
        answer(book, "clearBuffer");
        for (char sign : text.toCharArray()) {
            length = answer(book, "append " + (int) sign);
        }
        return length;
    }

    private static Object argument(String word) {
        if (word.equals("true") || word.equals("false")) {
            return Boolean.valueOf(word);
        }
        if (word.startsWith("'")) {
            return (int) word.charAt(1);
        }
        return word.equals("min") ? Integer.MIN_VALUE : word.equals("max") ? Integer.MAX_VALUE : Integer.valueOf(word);
    }

    private static Method methodOf(Class<?> type, String name) {
        return METHODS.computeIfAbsent(type, Told::methodsOf).get(name);
    }

    /** The methods of the face, by name, as they stand in the class. */
    private static Map<String, Method> methodsOf(Class<?> type) {
        Map<String, Method> methods = new HashMap<>();
        for (Method asked : FieldBook.class.getMethods()) {
            try {
                methods.put(asked.getName(), type.getDeclaredMethod(asked.getName(), asked.getParameterTypes()));
            } catch (NoSuchMethodException e) {
                continue;
            }
        }
        return methods;
    }

    /** The rows of several parts, one behind the other. */
    static String[] rows(String[]... parts) {
        List<String> all = new ArrayList<>();
        for (String[] part : parts) {
            all.addAll(Arrays.asList(part));
        }
        return all.toArray(new String[0]);
    }
}
