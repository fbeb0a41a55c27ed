import java.util.ArrayDeque;
import java.util.ArrayList;
import java.util.Deque;
import java.util.List;

/** The document once more, told as plainly as can be with the Java library: what ModelTest holds the class to. */
final class PlainBook {
    private static final int ZERO = 10000000;
    private static final int NONE = -1;

    private static final class Horse {
        int a;
        int b;
        boolean runs = true;
        int cut;
    }

    private static final class Bet {
        int horse;
        int stake;
        boolean eachWay;
        int a;
        int b;
        int takenAt;
    }

    private static final class Laid {
        int horse;
        int stake;
        int a;
        int b;
    }

    /** All but the buffer, the slots and the saved states. */
    private static final class State {
        final List<Horse> horses = new ArrayList<>();
        final List<Bet> bets = new ArrayList<>();
        final List<Laid> laid = new ArrayList<>();
        /** The horses that were withdrawn, in their order; a bet's cuts are those behind where it was taken. */
        final List<Integer> withdrawn = new ArrayList<>();
        List<List<Integer>> arrival = null;
        int part = 5;
        int loss = 10000;

        State copy() {
            State copy = new State();
            for (Horse horse : horses) {
                Horse twin = new Horse();
                twin.a = horse.a;
                twin.b = horse.b;
                twin.runs = horse.runs;
                twin.cut = horse.cut;
                copy.horses.add(twin);
            }
            copy.bets.addAll(bets);
            copy.laid.addAll(laid);
            copy.withdrawn.addAll(withdrawn);
            copy.arrival = arrival;
            copy.part = part;
            copy.loss = loss;
            return copy;
        }
    }

    private State now = new State();
    private final State[] slots = new State[2];
    private final Deque<State> saved = new ArrayDeque<>();
    private String text = "";

    private void save() {
        saved.addLast(now.copy());
        if (saved.size() > 6) {
            saved.removeFirst();
        }
    }

    private static void index(boolean good) {
        if (!good) {
            throw new IndexOutOfBoundsException();
        }
    }

    private static void argument(boolean good) {
        if (!good) {
            throw new IllegalArgumentException();
        }
    }

    private static void state(boolean good) {
        if (!good) {
            throw new IllegalStateException();
        }
    }

    private boolean isHorse(int horse) {
        return horse >= 0 && horse < now.horses.size();
    }

    private static boolean isPrice(int a, int b) {
        return a >= 1 && a <= 100 && b >= 1 && b <= 20;
    }

    private static boolean isStake(int stake) {
        return stake >= 1 && stake <= 9999;
    }

    private boolean open() {
        return now.arrival == null;
    }

    int horse(int a, int b) {
        argument(isPrice(a, b));
        state(now.horses.size() < 10 && open());
        save();
        Horse horse = new Horse();
        horse.a = a;
        horse.b = b;
        now.horses.add(horse);
        return now.horses.size() - 1;
    }

    int price(int horse, int a, int b) {
        index(isHorse(horse));
        argument(isPrice(a, b));
        state(now.horses.get(horse).runs && open());
        save();
        now.horses.get(horse).a = a;
        now.horses.get(horse).b = b;
        return horseOf(horse, 4);
    }

    int take(int horse, int stake, boolean eachWay) {
        index(isHorse(horse));
        argument(isStake(stake));
        state(now.horses.get(horse).runs && now.bets.size() < 24 && open());
        save();
        Bet bet = new Bet();
        bet.horse = horse;
        bet.stake = stake;
        bet.eachWay = eachWay;
        bet.a = now.horses.get(horse).a;
        bet.b = now.horses.get(horse).b;
        bet.takenAt = now.withdrawn.size();
        now.bets.add(bet);
        return now.bets.size() - 1;
    }

    int layOff(int horse, int stake, int a, int b) {
        index(isHorse(horse));
        argument(isStake(stake) && isPrice(a, b));
        state(now.horses.get(horse).runs && now.laid.size() < 6 && open());
        save();
        Laid bet = new Laid();
        bet.horse = horse;
        bet.stake = stake;
        bet.a = a;
        bet.b = b;
        now.laid.add(bet);
        return now.laid.size() - 1;
    }

    int withdraw(int horse) {
        index(isHorse(horse));
        Horse leaving = now.horses.get(horse);
        state(leaving.runs && open());
        save();
        leaving.runs = false;
        leaving.cut = Math.min(75, 100 * leaving.b / (leaving.a + leaving.b));
        now.withdrawn.add(horse);
        return leaving.cut;
    }

    int settle() {
        List<List<Integer>> arrival = read();
        argument(arrival != null);
        state(open());
        save();
        now.arrival = arrival;
        text = "";
        return wins(arrival);
    }

    int set(int setting, int value) {
        index(setting == 0 || setting == 1);
        argument(setting == 0 ? value == 4 || value == 5 : value >= 0 && value <= 99999);
        state(open());
        save();
        int previous = setting(setting);
        if (setting == 0) {
            now.part = value;
        } else {
            now.loss = value;
        }
        return previous;
    }

    int append(int code) {
        argument(code >= 33 && code <= 126);
        state(text.length() < 30);
        text = text + (char) code;
        return text.length();
    }

    int clearBuffer() {
        int length = text.length();
        text = "";
        return length;
    }

    private static boolean isArrival(String told) {
        return told.matches("[a-j]([>=][a-j])*")
                && told.replaceAll("[>=]", "").chars().distinct().count() == (told.length() + 1) / 2;
    }

    /** Whether an arrival as a text begins so: if it is none by itself, then one letter more must make it one. */
    private static boolean isBeginning(String told) {
        if (told.isEmpty() || isArrival(told)) {
            return true;
        }
        for (char letter = 'a'; letter <= 'j'; letter++) {
            if (isArrival(told + letter)) {
                return true;
            }
        }
        return false;
    }

    int firstError() {
        for (int i = 0; i < text.length(); i++) {
            if (!isBeginning(text.substring(0, i + 1))) {
                return i;
            }
        }
        return text.length();
    }

    int keep(int slot) {
        argument(slot == 0 || slot == 1);
        slots[slot] = now.copy();
        return now.bets.size();
    }

    int goBack(int slot) {
        argument(slot == 0 || slot == 1);
        state(slots[slot] != null);
        save();
        now = slots[slot].copy();
        return now.bets.size();
    }

    int undo() {
        state(!saved.isEmpty());
        now = saved.removeLast();
        return saved.size();
    }

    private List<List<Integer>> read() {
        if (!isArrival(text)) {
            return null;
        }
        List<List<Integer>> groups = new ArrayList<>();
        for (String group : text.split(">")) {
            List<Integer> members = new ArrayList<>();
            for (String letter : group.split("=")) {
                int horse = letter.charAt(0) - 'a';
                if (!isHorse(horse) || !now.horses.get(horse).runs) {
                    return null;
                }
                members.add(horse);
            }
            groups.add(members);
        }
        return groups;
    }

    private int running() {
        return (int) now.horses.stream().filter(horse -> horse.runs).count();
    }

    private int places() {
        int field = running();
        return field >= 8 ? 3 : field >= 5 ? 2 : 0;
    }

    /** The first place and the size of a horse's group; null if it is not told. */
    private static int[] placeAndSize(List<List<Integer>> arrival, int horse) {
        int ahead = 0;
        for (List<Integer> group : arrival) {
            if (group.contains(horse)) {
                return new int[] {ahead + 1, group.size()};
            }
            ahead += group.size();
        }
        return null;
    }

    private int cuts(Bet bet) {
        int cuts = 0;
        for (int horse : now.withdrawn.subList(bet.takenAt, now.withdrawn.size())) {
            cuts += now.horses.get(horse).cut;
        }
        return Math.min(90, cuts);
    }

    private static int paid(int counts, int a, int b, int cuts) {
        long won = (long) counts * a / b;
        return (int) (counts + won * (100 - cuts) / 100);
    }

    private int forWinning(Bet bet, List<List<Integer>> arrival) {
        if (!arrival.get(0).contains(bet.horse)) {
            return 0;
        }
        return paid(bet.stake / arrival.get(0).size(), bet.a, bet.b, cuts(bet));
    }

    private int forAPlace(Bet bet, List<List<Integer>> arrival) {
        if (!bet.eachWay) {
            return 0;
        }
        if (places() == 0) {
            return bet.stake;
        }
        int[] told = placeAndSize(arrival, bet.horse);
        if (told == null) {
            return 0;
        }
        int within = 0;
        for (int place = told[0]; place < told[0] + told[1]; place++) {
            within += place <= places() ? 1 : 0;
        }
        return within == 0 ? 0 : paid(bet.stake * within / told[1], bet.a, bet.b * now.part, cuts(bet));
    }

    private static int whole(Bet bet) {
        return bet.eachWay ? bet.stake + bet.stake : bet.stake;
    }

    private int returned(Bet bet, List<List<Integer>> arrival) {
        if (!now.horses.get(bet.horse).runs) {
            return whole(bet);
        }
        return forWinning(bet, arrival) + forAPlace(bet, arrival);
    }

    private int reason(Bet bet, List<List<Integer>> arrival) {
        if (!now.horses.get(bet.horse).runs) {
            return 1;
        }
        if (forWinning(bet, arrival) > 0) {
            return 2;
        }
        if (forAPlace(bet, arrival) > 0) {
            return places() > 0 ? 3 : 4;
        }
        return 0;
    }

    private int returned(Laid bet, List<List<Integer>> arrival) {
        if (!now.horses.get(bet.horse).runs) {
            return bet.stake;
        }
        if (!arrival.get(0).contains(bet.horse)) {
            return 0;
        }
        return paid(bet.stake / arrival.get(0).size(), bet.a, bet.b, 0);
    }

    private int wins(List<List<Integer>> arrival) {
        int wins = ZERO;
        for (Bet bet : now.bets) {
            wins += whole(bet) - returned(bet, arrival);
        }
        for (Laid bet : now.laid) {
            wins += returned(bet, arrival) - bet.stake;
        }
        return wins;
    }

    int horseOf(int horse, int what) {
        index(isHorse(horse));
        argument(what >= 0 && what <= 8);
        Horse asked = now.horses.get(horse);
        int[] told = now.arrival == null ? null : placeAndSize(now.arrival, horse);
        switch (what) {
            case 0: return asked.a;
            case 1: return asked.b;
            case 2: return asked.runs ? 1 : 0;
            case 3: return asked.cut;
            case 4: return (int) now.bets.stream().filter(bet -> bet.horse == horse).count();
            case 5: return now.bets.stream().filter(bet -> bet.horse == horse).mapToInt(bet -> bet.stake).sum();
            case 6: return now.bets.stream().filter(bet -> bet.horse == horse && bet.eachWay)
                    .mapToInt(bet -> bet.stake).sum();
            case 7: return told == null ? NONE : told[0];
            default: return told == null ? NONE : told[1];
        }
    }

    int bet(int number, int what) {
        index(number >= 0 && number < now.bets.size());
        argument(what >= 0 && what <= 7);
        Bet bet = now.bets.get(number);
        switch (what) {
            case 0: return bet.horse;
            case 1: return bet.stake;
            case 2: return bet.eachWay ? 1 : 0;
            case 3: return bet.a;
            case 4: return bet.b;
            case 5: return cuts(bet);
            case 6: return open() ? NONE : returned(bet, now.arrival);
            default: return open() ? NONE : reason(bet, now.arrival);
        }
    }

    int laid(int number, int what) {
        index(number >= 0 && number < now.laid.size());
        argument(what >= 0 && what <= 4);
        Laid bet = now.laid.get(number);
        switch (what) {
            case 0: return bet.horse;
            case 1: return bet.stake;
            case 2: return bet.a;
            case 3: return bet.b;
            default: return open() ? NONE : returned(bet, now.arrival);
        }
    }

    int count(int what) {
        argument(what >= 0 && what <= 13);
        switch (what) {
            case 0: return now.horses.size();
            case 1: return running();
            case 2: return now.bets.size();
            case 3: return now.laid.size();
            case 4: return now.bets.stream().mapToInt(PlainBook::whole).sum();
            case 5: return now.laid.stream().mapToInt(bet -> bet.stake).sum();
            case 6: return open() ? 0 : now.bets.stream().mapToInt(bet -> returned(bet, now.arrival)).sum();
            case 7: return open() ? 0 : now.laid.stream().mapToInt(bet -> returned(bet, now.arrival)).sum();
            case 8: return open() ? 0 : 1;
            case 9: return places();
            case 10: return now.horses.stream().filter(horse -> horse.runs)
                    .mapToInt(horse -> 1000 * horse.b / (horse.a + horse.b)).sum();
            case 11: return open() ? 0 : ZERO + count(4) - count(6) - count(5) + count(7);
            case 12: return open() ? 0 : wins(now.arrival);
            default: return saved.size();
        }
    }

    int setting(int setting) {
        index(setting == 0 || setting == 1);
        return setting == 0 ? now.part : now.loss;
    }

    int ifArrived() {
        List<List<Integer>> arrival = read();
        return arrival == null ? NONE : wins(arrival);
    }

    int ifWon(int horse) {
        index(isHorse(horse));
        if (!now.horses.get(horse).runs) {
            return NONE;
        }
        List<List<Integer>> arrival = new ArrayList<>();
        arrival.add(List.of(horse));
        for (int other = 0; other < now.horses.size(); other++) {
            if (other != horse && now.horses.get(other).runs) {
                arrival.add(List.of(other));
            }
        }
        return wins(arrival);
    }

    int worst() {
        int worst = NONE;
        for (int horse = now.horses.size() - 1; horse >= 0; horse--) {
            if (now.horses.get(horse).runs && (worst == NONE || ifWon(horse) <= ifWon(worst))) {
                worst = horse;
            }
        }
        return worst;
    }

    int cover(int horse) {
        index(isHorse(horse));
        Horse asked = now.horses.get(horse);
        if (!asked.runs) {
            return NONE;
        }
        int wins = ifWon(horse) - ZERO;
        for (int stake = 0; stake <= 9999; stake++) {
            if (wins - stake + paid(stake, asked.a, asked.b, 0) >= -now.loss) {
                return stake;
            }
        }
        return NONE;
    }

    double safeShare() {
        int safe = 0;
        for (int horse = 0; horse < now.horses.size(); horse++) {
            safe += now.horses.get(horse).runs && ifWon(horse) - ZERO >= -now.loss ? 1 : 0;
        }
        return running() == 0 ? 1.0 : (double) safe / running();
    }

    long digest() {
        List<Long> values = new ArrayList<>();
        for (int what = 0; what <= 13; what++) {
            values.add((long) count(what));
        }
        values.add((long) now.part);
        values.add((long) now.loss);
        for (int horse = 0; horse < now.horses.size(); horse++) {
            for (int what = 0; what <= 8; what++) {
                values.add((long) horseOf(horse, what));
            }
            values.add((long) ifWon(horse));
            values.add((long) cover(horse));
        }
        for (int bet = 0; bet < now.bets.size(); bet++) {
            for (int what = 0; what <= 7; what++) {
                values.add((long) bet(bet, what));
            }
        }
        for (int bet = 0; bet < now.laid.size(); bet++) {
            for (int what = 0; what <= 4; what++) {
                values.add((long) laid(bet, what));
            }
        }
        values.add((long) ifArrived());
        values.add((long) worst());
        values.add(Double.doubleToLongBits(safeShare()));
        values.add(slots[0] == null ? 0L : 1L);
        values.add(slots[1] == null ? 0L : 1L);
        values.add((long) text.length());
        text.chars().forEach(code -> values.add((long) code));
        long hash = 3079;
        for (long value : values) {
            hash = 31 * hash + value;
        }
        return hash;
    }
}
