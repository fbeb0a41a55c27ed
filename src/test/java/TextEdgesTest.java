/** "Input text" and the promises 9, 10 and 11 at their limits, and which texts promises 7 and 20 take for an arrival. */
public final class TextEdgesTest {
    private static final String ARGUMENT = " -> throws IllegalArgument";
    private static final String STATE = " -> throws IllegalState";
    private static final String TEN = "j>a=b>c=d>e=f>g=h>i";

    public static void main(String[] args) {
        room();
        codes();
        clear();
        noError();
        lettersOfTexts();
        signsOfTexts();
        noLetterTwice();
        tenLetters();
        firstOfSeveral();
        everySignBehind("", "abcdefghij");
        everySignBehind("e", ">=");
        everySignBehind("e=", "abcdfghij");
        everySignBehind("e>j=", "abcdfghi");
        everySignBehind("e>j=a", ">=");
        everySignBehind(TEN.substring(0, 16), "hi");
        everySignBehind(TEN.substring(0, 17), ">=");
        everySignBehind(TEN.substring(0, 18), "i");
        everySignBehind(TEN, "");
        whichAreArrivals();
        Check.end();
    }

    private static void room() {
        Told.run("The buffer has at most 30 characters", "28 x append 'a'", "append 'b' -> 29", "append '>' -> 30",
                "append 'c'" + STATE, "append '='" + STATE, "append '!'" + STATE, "append '~'" + STATE, "clearBuffer -> 30",
                "append 'c' -> 1");
        Told.run("The first character makes the length 1", "append 33 -> 1", "append 126 -> 2");
        Told.run("A full buffer is of no matter for other calls", "30 x append 'a'", "horse 2 1 -> 0", "keep 0 -> 0",
                "take 0 5 false -> 0", "goBack 0 -> 0", "undo -> 2", "firstError -> 1", "settle" + ARGUMENT,
                "append 'a'" + STATE, "clearBuffer -> 30");
        Told.run("append goes on when the race is settled", "horse 2 1", "append 'a'", "settle", "append 'a' -> 1",
                "append '>' -> 2", "clearBuffer -> 2", "count 8 -> 1");
        Told.run("append is not undoable", "append 'a'", "count 13 -> 0", "undo" + STATE, "horse 1 1", "append 'b'", "undo -> 0",
                "clearBuffer -> 2");
    }

    private static void codes() {
        Told.run("A code is 33 to 126: too small", "append 32" + ARGUMENT, "append 33 -> 1", "append 0" + ARGUMENT,
                "append -1" + ARGUMENT, "append min" + ARGUMENT, "clearBuffer -> 1");
        Told.run("A code is 33 to 126: too large", "append 127" + ARGUMENT, "append 126 -> 1", "append 128" + ARGUMENT,
                "append 353" + ARGUMENT, "append 65633" + ARGUMENT, "append max" + ARGUMENT, "clearBuffer -> 1");
        Told.run("A code out of range is told first when the buffer is full", "30 x append 'a'", "append 32" + ARGUMENT,
                "append 127" + ARGUMENT, "append 33" + STATE, "append 126" + STATE);
        for (int code = 33; code <= 126; code++) {
            FieldBook book = new FieldBook();
            Check.due("append " + code, book.append(code), 1);
            long hash = new FieldBook().digest();
            // ahead of the length and the code stand the same values as in a new book
            Check.due("digest with " + code, book.digest(), hash * 31 + 31 + code);
        }
    }

    private static void clear() {
        Told.run("clearBuffer returns the length that it had", "clearBuffer -> 0", "append 'a' -> 1", "clearBuffer -> 1",
                "clearBuffer -> 0", "30 x append 'a'", "clearBuffer -> 30", "clearBuffer -> 0", "firstError -> 0");
        Told.run("clearBuffer is not undoable", "horse 1 1", "type a", "clearBuffer -> 1", "count 13 -> 1", "undo -> 0",
                "clearBuffer -> 0");
        Told.run("What was cleared is not read again", "type a>b", "clearBuffer -> 3", "append 'j' -> 1", "firstError -> 1",
                "append 'j' -> 2", "firstError -> 1", "clearBuffer -> 2");
    }

    private static void error(String sentence, String text, int index) {
        Told.run(sentence + ": " + text, "type " + text + " -> " + text.length(), "firstError -> " + index,
                "clearBuffer -> " + text.length());
    }

    private static void noError() {
        error("The length of the buffer if there is none", "", 0);
        error("The length of the buffer if there is none", "a", 1);
        error("The length of the buffer if there is none", "a>", 2);
        error("The length of the buffer if there is none", "a=", 2);
        error("The length of the buffer if there is none", "a>b", 3);
        error("The length of the buffer if there is none", TEN.substring(0, 18), 18);
        error("The length of the buffer if there is none", TEN, 19);
        Told.run("Whether there are such horses does not matter", "type j>i -> 3", "firstError -> 3", "ifArrived -> -1",
                "horse 1 1", "firstError -> 3", "ifArrived -> -1", "type b", "firstError -> 1", "horse 1 1", "withdraw 1",
                "firstError -> 1", "ifArrived -> -1");
    }

    private static void lettersOfTexts() {
        error("Letters are a to j", "j", 1);
        error("Letters are a to j", "k", 0);
        error("Letters are a to j", "`", 0);
        error("Letters are a to j", "A", 0);
        error("Letters are a to j", "J", 0);
        error("Letters are a to j", "a>k", 2);
        error("Letters are a to j", "a=`", 2);
        error("Letters are a to j", "a=z", 2);
    }

    private static void signsOfTexts() {
        error("> and = alone stand between letters", "a<", 1);
        error("> and = alone stand between letters", "a?", 1);
        error("> and = alone stand between letters", "a;b", 1);
        error("> and = alone stand between letters", "a-b", 1);
        error("A sign stands between letters, not ahead of them", ">", 0);
        error("A sign stands between letters, not ahead of them", "=a", 0);
        error("One sign stands between letters", "a>>b", 2);
        error("One sign stands between letters", "a==b", 2);
        error("One sign stands between letters", "a>=b", 2);
        error("One sign stands between letters", "a=>b", 2);
        error("No letter stands behind a letter", "ab", 1);
        error("No letter stands behind a letter", "a>bc", 3);
        error("No letter stands behind a letter", "aa", 1);
    }

    private static void noLetterTwice() {
        error("No letter stands twice", "a>a", 2);
        error("No letter stands twice", "a=a", 2);
        error("No letter stands twice", "j=j", 2);
        error("No letter stands twice", "a>b=a", 4);
        error("No letter stands twice", "a>b=c>b", 6);
        error("No letter stands twice", TEN.substring(0, 18) + "j", 18);
        error("No letter stands twice", TEN.substring(0, 18) + "g", 18);
    }

    /** No arrival of any length goes on behind ten letters. */
    private static void tenLetters() {
        error("A character behind ten letters", TEN + ">", 19);
        error("A character behind ten letters", TEN + "=", 19);
        error("A character behind ten letters", TEN + "a", 19);
        error("A character behind ten letters", TEN + "k", 19);
        error("Characters up to 30 behind ten letters", TEN + ">a=b>c=d>e=", 19);
        error("Characters up to 30 behind ten letters", TEN + "aaaaaaaaaaa", 19);
    }

    private static void firstOfSeveral() {
        error("The first of several errors", "a>b<c>>d>a", 3);
        error("The first of several errors", "k>k>k", 0);
        error("The first of several errors", "!!!!!!!!!!!!!!!!!!!!!!!!!!!!!!", 0);
        error("The first of several errors", "a!!!!!!!!!!!!!!!!!!!!!!!!!!!!!", 1);
        error("An error in the middle, with a good end", "a>bb>c=d", 3);
        error("An error as the last character", "a>b>c=c", 6);
    }

    /** Every character there is, behind a beginning: the good ones make the text longer, all others are an error. */
    private static void everySignBehind(String beginning, String good) {
        for (int code = 33; code <= 126; code++) {
            FieldBook book = new FieldBook();
            Check.type(book, beginning + (char) code);
            int want = good.indexOf((char) code) >= 0 ? beginning.length() + 1 : beginning.length();
            Check.due("firstError of " + beginning + (char) code, book.firstError(), want);
        }
    }

    private static void whichAreArrivals() {
        String[] good = {"a", "j", "a>b", "a=b", "b=a>j", TEN, "a>b>c>d>e>f>g>h>i>j", "a=b=c=d=e=f=g=h=i=j"};
        for (String text : good) {
            Told.run("It tells an arrival: " + text, "10 x horse 2 1", "type " + text, "ifArrived -> 10000000",
                    "settle -> 10000000", "count 8 -> 1");
        }
        String[] bad = {"", "a>", "a=", ">", "=", ">a", "=a", "a>b>", TEN + ">", TEN + "=a", "aa", "a>a", "ab", "A", "k",
            "a>k", TEN.substring(0, 18), "a<b", "a>b!", "a>b=c>"};
        for (String text : bad) {
            Told.run("It tells no arrival: " + text, "10 x horse 2 1", "type " + text, "ifArrived -> -1",
                    "settle" + ARGUMENT, "count 8 -> 0", "clearBuffer -> " + text.length());
        }
    }
}
