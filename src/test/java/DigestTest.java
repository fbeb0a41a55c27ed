/** Promise 25: digest, against the same list asked for by the other calls. */
public final class DigestTest {
    public static void main(String[] args) {
        knownNumber();
        shares();
        grows();
        Check.end();
    }

    /** The list of promise 25, told by the face; the slots can't be asked, so they are told. */
    static long listed(FieldBook book, int first, int second, String text) {
        long hash = 3079;
        for (int what = 0; what <= 13; what++) {
            hash = 31 * hash + book.count(what);
        }
        hash = 31 * hash + book.setting(0);
        hash = 31 * hash + book.setting(1);
        for (int horse = 0; horse < book.count(0); horse++) {
            for (int what = 0; what <= 8; what++) {
                hash = 31 * hash + book.horseOf(horse, what);
            }
            hash = 31 * hash + book.ifWon(horse);
            hash = 31 * hash + book.cover(horse);
        }
        for (int bet = 0; bet < book.count(2); bet++) {
            for (int what = 0; what <= 7; what++) {
                hash = 31 * hash + book.bet(bet, what);
            }
        }
        for (int bet = 0; bet < book.count(3); bet++) {
            for (int what = 0; what <= 4; what++) {
                hash = 31 * hash + book.laid(bet, what);
            }
        }
        hash = 31 * hash + book.ifArrived();
        hash = 31 * hash + book.worst();
        hash = 31 * hash + Double.doubleToLongBits(book.safeShare());
        hash = 31 * hash + first;
        hash = 31 * hash + second;
        hash = 31 * hash + text.length();
        for (int i = 0; i < text.length(); i++) {
            hash = 31 * hash + text.charAt(i);
        }
        return hash;
    }

    private static void knownNumber() {
        long hash = 3079;
        long[] values = {0, 0, 0, 0, 0, 0, 0, 0, 0, 0, 0, 0, 0, 0, 5, 10000, -1, -1, 0x3FF0000000000000L, 0, 0, 0};
        for (long value : values) {
            hash = 31 * hash + value;
        }
        Check.due("digest of a new book", new FieldBook().digest(), hash);
    }

    /** Every share of horses that can be borne, 0 to n of n, by the bits that it has in the digest. */
    private static void shares() {
        for (int running = 1; running <= 10; running++) {
            for (int safe = 0; safe <= running; safe++) {
                FieldBook book = Check.field(running, 100, 1);
                book.set(1, 0);
                for (int horse = safe; horse < running; horse++) {
                    book.take(horse, 100, false);
                }
                Check.due("share", book.safeShare(), (double) safe / running);
                Check.due("digest with " + safe + " of " + running, book.digest(), listed(book, 0, 0, ""));
            }
        }
    }

    private static void grows() {
        FieldBook book = Check.field(6, 7, 2);
        book.take(0, 100, true);
        book.take(3, 55, false);
        book.layOff(0, 20, 3, 1);
        Check.due("bets", book.digest(), listed(book, 0, 0, ""));
        book.keep(0);
        Check.due("the first slot", book.digest(), listed(book, 1, 0, ""));
        Check.type(book, "a>d");
        Check.due("a text", book.digest(), listed(book, 1, 0, "a>d"));
        book.withdraw(5);
        Check.due("withdrawn", book.digest(), listed(book, 1, 0, "a>d"));
        book.settle();
        Check.due("settled", book.digest(), listed(book, 1, 0, ""));
        book.keep(1);
        Check.due("both slots", book.digest(), listed(book, 1, 1, ""));
        book.undo();
        Check.due("undone", book.digest(), listed(book, 1, 1, ""));
        Check.type(book, "~!");
        Check.due("a wrong text", book.digest(), listed(book, 1, 1, "~!"));
        long digest = book.digest();
        Check.due("digest changes nothing", book.digest(), digest);
        FieldBook second = new FieldBook();
        second.keep(1);
        Check.due("the second slot alone", second.digest(), listed(second, 0, 1, ""));
    }
}
