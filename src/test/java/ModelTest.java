/** Long runs of calls, drawn by a fixed row of numbers, on the class and on PlainBook: all answers must be the same. */
public final class ModelTest {
    private static final int RUNS = 300;
    private static final int CALLS = 512;

    private static long seed;
    private static int[] most;
    private static final int[] ANSWERED = new int[CALLED.values().length];
    private static final int[] REFUSED = new int[CALLED.values().length];

    private enum CALLED {
        HORSE, PRICE, TAKE, LAY_OFF, WITHDRAW, SETTLE, SET, APPEND, CLEAR, ERROR, KEEP, GO_BACK, UNDO, HORSE_OF, BET,
        LAID, COUNT, SETTING, IF_ARRIVED, IF_WON, WORST, COVER, SHARE, DIGEST, TYPE
    }

    public static void main(String[] args) {
        for (int run = 0; run < RUNS; run++) {
            seed = 7919L * run + 17;
            most = weights(run % 5);
            run(run);
        }
        for (CALLED called : CALLED.values()) {
            Check.due(called + " was answered", ANSWERED[called.ordinal()] > 0 ? 1 : 0, 1);
        }
        for (CALLED called : new CALLED[] {CALLED.HORSE, CALLED.PRICE, CALLED.TAKE, CALLED.LAY_OFF, CALLED.WITHDRAW,
            CALLED.SETTLE, CALLED.SET, CALLED.APPEND, CALLED.KEEP, CALLED.GO_BACK, CALLED.UNDO, CALLED.HORSE_OF,
            CALLED.BET, CALLED.LAID, CALLED.COUNT, CALLED.SETTING, CALLED.IF_WON, CALLED.COVER}) {
            Check.due(called + " was refused", REFUSED[called.ordinal()] > 0 ? 1 : 0, 1);
        }
        Check.end();
    }

    /** How often each call is drawn: by kinds of runs, so that some fill the book and others go back and forth. */
    private static int[] weights(int kind) {
        int[] often = new int[CALLED.values().length];
        java.util.Arrays.fill(often, 3);
        often[CALLED.TAKE.ordinal()] = 20;
        often[CALLED.HORSE.ordinal()] = 8;
        often[CALLED.TYPE.ordinal()] = 8;
        often[CALLED.DIGEST.ordinal()] = 2;
        often[CALLED.GO_BACK.ordinal()] = kind == 1 ? 20 : 1;
        often[CALLED.KEEP.ordinal()] = kind == 1 ? 12 : 1;
        often[CALLED.UNDO.ordinal()] = kind == 2 ? 25 : kind == 3 ? 0 : 8;
        often[CALLED.SETTLE.ordinal()] = kind == 3 ? 0 : kind == 4 ? 12 : 3;
        often[CALLED.WITHDRAW.ordinal()] = kind == 3 ? 0 : 2;
        return often;
    }

    private static int draw(int bound) {
        seed = seed * 6364136223846793005L + 1442695040888963407L;
        return (int) ((seed >>> 33) % bound);
    }

    /** A number in the range, or, one time of twenty, one that is out of it. */
    private static int draw(int low, int high) {
        int[] out = {low - 1, high + 1, Integer.MIN_VALUE, Integer.MAX_VALUE};
        if (draw(20) == 0) {
            return out[draw(out.length)];
        }
        return draw(4) == 0 ? (draw(2) == 0 ? low : high) : low + draw(high - low + 1);
    }

    private static CALLED drawCall() {
        int all = 0;
        for (int often : most) {
            all += often;
        }
        int left = draw(all);
        for (CALLED called : CALLED.values()) {
            left -= most[called.ordinal()];
            if (left < 0) {
                return called;
            }
        }
        return CALLED.DIGEST;
    }

    private static String drawText(int horses) {
        StringBuilder text = new StringBuilder();
        int length = 1 + draw(11);
        boolean wild = draw(3) == 0;
        int used = 0;
        for (int i = 0; i < length; i++) {
            int letter = draw(wild ? 11 : Math.max(1, horses));
            if (!wild && (used >> letter & 1) == 1) {
                continue;
            }
            used |= 1 << letter;
            if (text.length() > 0) {
                text.append(draw(2) == 0 ? '>' : '=');
            }
            text.append((char) ('a' + letter));
        }
        if (wild) {
            text.append((char) (33 + draw(94)));
        }
        return text.toString();
    }

    private static void run(int run) {
        FieldBook book = new FieldBook();
        PlainBook plain = new PlainBook();
        for (int call = 0; call < CALLS; call++) {
            CALLED called = call == CALLS - 1 ? CALLED.DIGEST : drawCall();
            int horse = draw(0, Math.max(0, plain.count(0) - 1));
            int a = draw(1, 100);
            int b = draw(1, 20);
            int stake = draw(1, draw(2) == 0 ? 9999 : 9);
            int[] numbers = {horse, a, b, stake, draw(0, 1), draw(0, 13)};
            String text = drawText(plain.count(0));
            if (called == CALLED.TYPE) {
                call += text.length();
                if (call >= CALLS - 2) {
                    break;
                }
            }
            String got = told(() -> ask(called, book, numbers, text));
            String want = told(() -> ask(called, plain, numbers, text));
            (want.startsWith("throws") ? REFUSED : ANSWERED)[called.ordinal()]++;
            if (!got.equals(want)) {
                System.out.println("run " + run + ", call " + call + ": " + called + " of "
                        + java.util.Arrays.toString(numbers) + ", " + text + " is " + got + ", due is " + want);
                Check.due("run " + run, 0, 1);
                return;
            }
        }
        Check.due("digest at the end of run " + run, book.digest(), plain.digest());
    }

    private static String told(Check.Call call) {
        try {
            return Long.toString(call.answer());
        } catch (IllegalArgumentException | IllegalStateException | IndexOutOfBoundsException e) {
            return "throws " + e.getClass().getName();
        }
    }

    private static int drawnSetting(int[] numbers) {
        return numbers[4] == 0 ? 3 + numbers[5] % 4 : numbers[3] * (numbers[5] % 11);
    }

    private static long ask(CALLED called, FieldBook book, int[] n, String text) {
        switch (called) {
            case HORSE: return book.horse(n[1], n[2]);
            case PRICE: return book.price(n[0], n[1], n[2]);
            case TAKE: return book.take(n[0], n[3], n[5] % 2 == 0);
            case LAY_OFF: return book.layOff(n[0], n[3], n[1], n[2]);
            case WITHDRAW: return book.withdraw(n[0]);
            case SETTLE: return book.settle();
            case SET: return book.set(n[4], drawnSetting(n));
            case APPEND: return book.append(n[1] + 30);
            case CLEAR: return book.clearBuffer();
            case ERROR: return book.firstError();
            case KEEP: return book.keep(n[4]);
            case GO_BACK: return book.goBack(n[4]);
            case UNDO: return book.undo();
            case HORSE_OF: return book.horseOf(n[0], n[5]);
            case BET: return book.bet(n[2], n[5]);
            case LAID: return book.laid(n[2] / 4, n[5]);
            case COUNT: return book.count(n[5]);
            case SETTING: return book.setting(n[4]);
            case IF_ARRIVED: return book.ifArrived();
            case IF_WON: return book.ifWon(n[0]);
            case WORST: return book.worst();
            case COVER: return book.cover(n[0]);
            case SHARE: return Double.doubleToRawLongBits(book.safeShare());
            case TYPE:
                Check.type(book, text);
                return book.firstError();
            default: return book.digest();
        }
    }

    private static long ask(CALLED called, PlainBook book, int[] n, String text) {
        switch (called) {
            case HORSE: return book.horse(n[1], n[2]);
            case PRICE: return book.price(n[0], n[1], n[2]);
            case TAKE: return book.take(n[0], n[3], n[5] % 2 == 0);
            case LAY_OFF: return book.layOff(n[0], n[3], n[1], n[2]);
            case WITHDRAW: return book.withdraw(n[0]);
            case SETTLE: return book.settle();
            case SET: return book.set(n[4], drawnSetting(n));
            case APPEND: return book.append(n[1] + 30);
            case CLEAR: return book.clearBuffer();
            case ERROR: return book.firstError();
            case KEEP: return book.keep(n[4]);
            case GO_BACK: return book.goBack(n[4]);
            case UNDO: return book.undo();
            case HORSE_OF: return book.horseOf(n[0], n[5]);
            case BET: return book.bet(n[2], n[5]);
            case LAID: return book.laid(n[2] / 4, n[5]);
            case COUNT: return book.count(n[5]);
            case SETTING: return book.setting(n[4]);
            case IF_ARRIVED: return book.ifArrived();
            case IF_WON: return book.ifWon(n[0]);
            case WORST: return book.worst();
            case COVER: return book.cover(n[0]);
            case SHARE: return Double.doubleToRawLongBits(book.safeShare());
            case TYPE:
                book.clearBuffer();
                text.chars().forEach(book::append);
                return book.firstError();
            default: return book.digest();
        }
    }
}
