/**
 * The field book of a race. What each call must do stands as numbered promises in ../shared/DOC.md.
 *
 * <p>All rooms are made here and used again: no call makes an object, but for the exception that it throws.
 */
public final class FieldBook {
    public static final int NONE = -1;

    private static final int MOST_HORSES = 10;
    private static final int MOST_BETS = 24;
    private static final int MOST_LAID = 6;
    private static final int MOST_SAVED = 6;
    private static final int MOST_CODES = 30;
    private static final int MOST_A = 100;
    private static final int MOST_B = 20;
    private static final int MOST_STAKE = 9999;
    private static final int MOST_CUT = 75;
    private static final int MOST_CUTS = 90;
    private static final int MOST_LOSS = 99999;
    private static final int COUNTS = 14;

    /** Added to what the book wins, as the document asks. */
    private static final int ZERO_LINE = 10000000;

    /** With every letter used no arrival goes on, so no sign may stand behind this many characters. */
    private static final int LONGEST_ARRIVAL = 2 * MOST_HORSES - 1;

    // The columns of horses, bets and bets laid off are the properties of horseOf, bet and laid.
    private static final int HORSE_A = 0;
    private static final int HORSE_B = 1;
    private static final int HORSE_RUNS = 2;
    private static final int HORSE_CUT = 3;
    private static final int HORSE_BETS = 4;
    private static final int HORSE_WIN_STAKES = 5;
    private static final int HORSE_PLACE_STAKES = 6;
    private static final int HORSE_PLACE = 7;
    private static final int HORSE_GROUP = 8;
    private static final int HORSE_COLUMNS = 9;

    private static final int BET_HORSE = 0;
    private static final int BET_STAKE = 1;
    private static final int BET_EACH_WAY = 2;
    private static final int BET_A = 3;
    private static final int BET_B = 4;
    private static final int BET_CUTS = 5;
    private static final int BET_RETURNED = 6;
    private static final int BET_REASON = 7;
    private static final int BET_COLUMNS = 8;

    private static final int LAID_HORSE = 0;
    private static final int LAID_STAKE = 1;
    private static final int LAID_A = 2;
    private static final int LAID_B = 3;
    private static final int LAID_RETURNED = 4;
    private static final int LAID_COLUMNS = 5;

    private static final int NO_REASON = 0;
    private static final int HORSE_WITHDRAWN = 1;
    private static final int WON = 2;
    private static final int PLACED = 3;
    private static final int NO_PLACES = 4;

    private final Book now;
    private final Arrival arrival;
    private final Text text;
    private final History history;
    private final Slot slotZero;
    private final Slot slotOne;

    public FieldBook() {
        now = new Book();
        arrival = new Arrival();
        text = new Text();
        history = new History();
        slotZero = new Slot();
        slotOne = new Slot();
    }

    // ---- horses, bets

    public int horse(int a, int b) throws IllegalArgumentException, IllegalStateException {
        requirePrice(a, b);
        requireOpen();
        requireRoom(now.horses);
        history.save(now);
        return now.addHorse(a, b);
    }

    public int price(int horse, int a, int b)
            throws IndexOutOfBoundsException, IllegalArgumentException, IllegalStateException {
        requireHorse(horse);
        requirePrice(a, b);
        requireRunning(horse);
        requireOpen();
        history.save(now);
        now.horses.put(horse, HORSE_A, a);
        now.horses.put(horse, HORSE_B, b);
        return now.horses.cell(horse, HORSE_BETS);
    }

    public int take(int horse, int stake, boolean eachWay)
            throws IndexOutOfBoundsException, IllegalArgumentException, IllegalStateException {
        requireHorse(horse);
        requireStake(stake);
        requireRunning(horse);
        requireOpen();
        requireRoom(now.bets);
        history.save(now);
        return now.addBet(horse, stake, eachWay);
    }

    public int layOff(int horse, int stake, int a, int b)
            throws IndexOutOfBoundsException, IllegalArgumentException, IllegalStateException {
        requireHorse(horse);
        requireStake(stake);
        requirePrice(a, b);
        requireRunning(horse);
        requireOpen();
        requireRoom(now.laid);
        history.save(now);
        return now.addLaid(horse, stake, a, b);
    }

    public int withdraw(int horse) throws IndexOutOfBoundsException, IllegalStateException {
        requireHorse(horse);
        requireRunning(horse);
        requireOpen();
        history.save(now);
        return now.takeOut(horse);
    }

    public int settle() throws IllegalArgumentException, IllegalStateException {
        if (!readArrival()) {
            throw new IllegalArgumentException("the buffer tells no arrival of horses that run");
        }
        requireOpen();
        history.save(now);
        now.settleBy(arrival);
        text.empty();
        return now.won();
    }

    public int set(int setting, int value)
            throws IndexOutOfBoundsException, IllegalArgumentException, IllegalStateException {
        requireSetting(setting);
        if (!fits(setting, value)) {
            throw new IllegalArgumentException("the value is out of range");
        }
        requireOpen();
        history.save(now);
        int previous = settingNow(setting);
        if (setting == 0) {
            now.pricePart = value;
        } else {
            now.borneLoss = value;
        }
        return previous;
    }

    // ---- the buffer, snapshots

    public int append(int code) throws IllegalArgumentException, IllegalStateException {
        if (code < 33 || code > 126) {
            throw new IllegalArgumentException("the code is not 33 to 126");
        }
        if (text.isFull()) {
            throw new IllegalStateException("the buffer is full");
        }
        text.add(code);
        return text.length();
    }

    public int clearBuffer() {
        int length = text.length();
        text.empty();
        return length;
    }

    public int firstError() {
        return text.firstWrong();
    }

    public int keep(int slot) throws IllegalArgumentException {
        requireSlot(slot);
        slotOf(slot).fill(now);
        return now.bets.size();
    }

    public int goBack(int slot) throws IllegalArgumentException, IllegalStateException {
        requireSlot(slot);
        Slot kept = slotOf(slot);
        if (!kept.isFull()) {
            throw new IllegalStateException("there is no snapshot in the slot");
        }
        history.save(now);
        kept.bringBack(now);
        return now.bets.size();
    }

    public int undo() throws IllegalStateException {
        if (history.size() == 0) {
            throw new IllegalStateException("there is no saved state");
        }
        history.restore(now);
        return history.size();
    }

    // ---- looks; nothing is changed

    public int horseOf(int horse, int what) throws IndexOutOfBoundsException, IllegalArgumentException {
        requireHorse(horse);
        requireProperty(what, HORSE_COLUMNS);
        return now.horses.cell(horse, what);
    }

    public int bet(int bet, int what) throws IndexOutOfBoundsException, IllegalArgumentException {
        requireRow(now.bets, bet);
        requireProperty(what, BET_COLUMNS);
        return now.bets.cell(bet, what);
    }

    public int laid(int bet, int what) throws IndexOutOfBoundsException, IllegalArgumentException {
        requireRow(now.laid, bet);
        requireProperty(what, LAID_COLUMNS);
        return now.laid.cell(bet, what);
    }

    public int count(int what) throws IllegalArgumentException {
        requireProperty(what, COUNTS);
        return counted(what);
    }

    public int setting(int setting) throws IndexOutOfBoundsException {
        requireSetting(setting);
        return settingNow(setting);
    }

    // ---- what would be; nothing is changed

    public int ifArrived() {
        return readArrival() ? now.wouldWin(arrival) : NONE;
    }

    public int ifWon(int horse) throws IndexOutOfBoundsException {
        requireHorse(horse);
        return wouldWinWith(horse);
    }

    public int worst() {
        int found = NONE;
        int least = 0;
        for (int horse = 0; horse < now.horses.size(); horse++) {
            if (now.runs(horse)) {
                int wins = wouldWinWith(horse);
                if (found == NONE || wins < least) {
                    found = horse;
                    least = wins;
                }
            }
        }
        return found;
    }

    public int cover(int horse) throws IndexOutOfBoundsException {
        requireHorse(horse);
        return coveringStake(horse, wouldWinWith(horse));
    }

    public double safeShare() {
        int running = now.running();
        if (running <= 0) {
            return 1.0;
        }
        int safe = 0;
        for (int horse = 0; horse < now.horses.size(); horse++) {
            if (now.runs(horse) && wouldWinWith(horse) >= ZERO_LINE - now.borneLoss) {
                safe++;
            }
        }
        return (double) safe / running;
    }

    public long digest() {
        long hash = 3079L;
        for (int what = 0; what < COUNTS; what++) {
            hash = mixed(hash, counted(what));
        }
        hash = mixed(hash, settingNow(0));
        hash = mixed(hash, settingNow(1));
        hash = mixedHorses(hash);
        hash = mixedTable(hash, now.bets);
        hash = mixedTable(hash, now.laid);
        hash = mixed(hash, ifArrived());
        hash = mixed(hash, worst());
        hash = mixed(hash, bitsOfShare(safeShare()));
        hash = mixed(hash, slotZero.isFull() ? 1 : 0);
        hash = mixed(hash, slotOne.isFull() ? 1 : 0);
        hash = mixed(hash, text.length());
        for (int i = 0; i < text.length(); i++) {
            hash = mixed(hash, text.codeAt(i));
        }
        return hash;
    }

    // ---- what is refused

    private static void requirePrice(int a, int b) {
        if (a < 1 || a > MOST_A || b < 1 || b > MOST_B) {
            throw new IllegalArgumentException("the price is out of range");
        }
    }

    private static void requireStake(int stake) {
        if (stake < 1 || stake > MOST_STAKE) {
            throw new IllegalArgumentException("the stake is out of range");
        }
    }

    private static void requireProperty(int what, int properties) {
        if (what < 0 || what >= properties) {
            throw new IllegalArgumentException("there is no such property");
        }
    }

    private static void requireSetting(int setting) {
        if (setting < 0 || setting > 1) {
            throw new IndexOutOfBoundsException("there is no such setting");
        }
    }

    private static void requireSlot(int slot) {
        if (slot < 0 || slot > 1) {
            throw new IllegalArgumentException("there is no such slot");
        }
    }

    private static void requireRow(Table table, int row) {
        if (!table.has(row)) {
            throw new IndexOutOfBoundsException("there is no such number");
        }
    }

    private static void requireRoom(Table table) {
        if (table.isFull()) {
            throw new IllegalStateException("there is no room for one more");
        }
    }

    private void requireHorse(int horse) {
        requireRow(now.horses, horse);
    }

    private void requireRunning(int horse) {
        if (!now.runs(horse)) {
            throw new IllegalStateException("the horse is withdrawn");
        }
    }

    private void requireOpen() {
        if (now.settled) {
            throw new IllegalStateException("the race is settled");
        }
    }

    // ---- settings, slots, numbers

    private static boolean fits(int setting, int value) {
        if (setting == 0) {
            return value == 4 || value == 5;
        }
        return value >= 0 && value <= MOST_LOSS;
    }

    private int settingNow(int setting) {
        return setting == 0 ? now.pricePart : now.borneLoss;
    }

    private Slot slotOf(int slot) {
        return slot == 0 ? slotZero : slotOne;
    }

    private int counted(int what) {
        switch (what) {
            case 0: return now.horses.size();
            case 1: return now.running();
            case 2: return now.bets.size();
            case 3: return now.laid.size();
            case 4: return now.stakes();
            case 5: return now.laid.sum(LAID_STAKE);
            case 6: return now.settled ? now.bets.sum(BET_RETURNED) : 0;
            case 7: return now.settled ? now.laid.sum(LAID_RETURNED) : 0;
            case 8: return now.settled ? 1 : 0;
            case 9: return now.places();
            case 10: return now.round();
            case 11: return now.settled ? now.won() : 0;
            case 12: return now.settled ? now.wonByLosses() : 0;
            default: return history.size();
        }
    }

    // ---- what would be

    /** Reads the buffer into the arrival; tells whether it is one, of horses that run alone. */
    private boolean readArrival() {
        if (!text.isArrival()) {
            return false;
        }
        arrival.begin(now.places());
        for (int i = 0; i < text.length(); i += 2) {
            int horse = text.codeAt(i) - 'a';
            if (!now.runs(horse)) {
                return false;
            }
            arrival.arrive(horse, i > 0 && text.codeAt(i - 1) == '=');
        }
        return true;
    }

    private int wouldWinWith(int horse) {
        if (!now.runs(horse)) {
            return NONE;
        }
        arrival.begin(now.places());
        arrival.arrive(horse, false);
        for (int other = 0; other < now.horses.size(); other++) {
            if (other != horse && now.runs(other)) {
                arrival.arrive(other, false);
            }
        }
        return now.wouldWin(arrival);
    }

    /** The stake itself comes back, so what it adds is only what is won with it: rounded down, stake times a by b. */
    private int coveringStake(int horse, int wins) {
        int a = now.horses.cell(horse, HORSE_A);
        if (!now.runs(horse) || a <= 0) {
            return NONE;
        }
        long lacking = (long) ZERO_LINE - now.borneLoss - wins;
        if (lacking <= 0) {
            return 0;
        }
        long stake = (lacking * now.horses.cell(horse, HORSE_B) + a - 1) / a;
        return stake <= MOST_STAKE ? (int) stake : NONE;
    }

    // ---- the digest

    private static long mixed(long hash, long value) {
        return 31 * hash + value;
    }

    private static long mixedRow(long hash, Table table, int row) {
        long mix = hash;
        for (int column = 0; column < table.columns(); column++) {
            mix = mixed(mix, table.cell(row, column));
        }
        return mix;
    }

    private static long mixedTable(long hash, Table table) {
        long mix = hash;
        for (int row = 0; row < table.size(); row++) {
            mix = mixedRow(mix, table, row);
        }
        return mix;
    }

    private long mixedHorses(long hash) {
        long mix = hash;
        for (int horse = 0; horse < now.horses.size(); horse++) {
            int wins = wouldWinWith(horse);
            mix = mixedRow(mix, now.horses, horse);
            mix = mixed(mix, wins);
            mix = mixed(mix, coveringStake(horse, wins));
        }
        return mix;
    }

    /** As Double.doubleToLongBits, which LANGUAGE.md leaves out: doubling is exact, so nothing is lost on the way. */
    private static long bitsOfShare(double share) {
        if (share <= 0.0) {
            return 0L;
        }
        double significand = share;
        long exponent = 1023L;
        for (int i = 0; i < 64 && significand < 1.0; i++) {
            significand = significand * 2.0;
            exponent--;
        }
        return (exponent << 52) + (long) ((significand - 1.0) * (double) (1L << 52));
    }

    /** Rows of numbers in one array; each cell is tested before it is touched. */
    private static final class Table {
        private final int columns;
        private final int[] cells;
        private int size;

        Table(int columns, int[] cells) {
            this.columns = columns;
            this.cells = cells;
        }

        int columns() {
            return columns;
        }

        int size() {
            return size;
        }

        boolean has(int row) {
            return row >= 0 && row < size;
        }

        boolean isFull() {
            return (size + 1) * columns > cells.length;
        }

        /** Answers 0 where there is no such cell. */
        int cell(int row, int column) {
            int index = row * columns + column;
            boolean there = row >= 0 && row < size && column >= 0 && column < columns;
            return there && index >= 0 && index < cells.length ? cells[index] : 0;
        }

        void put(int row, int column, int value) {
            int index = row * columns + column;
            boolean there = row >= 0 && row < size && column >= 0 && column < columns;
            if (there && index >= 0 && index < cells.length) {
                cells[index] = value;
            }
        }

        void raise(int row, int column, int amount) {
            put(row, column, cell(row, column) + amount);
        }

        /** Adds a row of zeros; the caller has seen that there is room. */
        int addRow() {
            int row = size;
            size = size + 1;
            for (int column = 0; column < columns; column++) {
                put(row, column, 0);
            }
            return row;
        }

        int sum(int column) {
            int all = 0;
            for (int row = 0; row < size; row++) {
                all += cell(row, column);
            }
            return all;
        }

        void copyFrom(Table other) {
            size = other.size;
            System.arraycopy(other.cells, 0, cells, 0, Math.min(other.cells.length, cells.length));
        }
    }

    /** All that snapshots and saved states hold. */
    private static final class Book {
        final Table horses;
        final Table bets;
        final Table laid;
        boolean settled;
        int pricePart;
        int borneLoss;

        Book() {
            horses = new Table(HORSE_COLUMNS, new int[MOST_HORSES * HORSE_COLUMNS]);
            bets = new Table(BET_COLUMNS, new int[MOST_BETS * BET_COLUMNS]);
            laid = new Table(LAID_COLUMNS, new int[MOST_LAID * LAID_COLUMNS]);
            pricePart = 5;
            borneLoss = 10000;
        }

        void copyFrom(Book other) {
            horses.copyFrom(other.horses);
            bets.copyFrom(other.bets);
            laid.copyFrom(other.laid);
            settled = other.settled;
            pricePart = other.pricePart;
            borneLoss = other.borneLoss;
        }

        int addHorse(int a, int b) {
            int horse = horses.addRow();
            horses.put(horse, HORSE_A, a);
            horses.put(horse, HORSE_B, b);
            horses.put(horse, HORSE_RUNS, 1);
            horses.put(horse, HORSE_PLACE, NONE);
            horses.put(horse, HORSE_GROUP, NONE);
            return horse;
        }

        int addBet(int horse, int stake, boolean eachWay) {
            int bet = bets.addRow();
            bets.put(bet, BET_HORSE, horse);
            bets.put(bet, BET_STAKE, stake);
            bets.put(bet, BET_EACH_WAY, eachWay ? 1 : 0);
            bets.put(bet, BET_A, horses.cell(horse, HORSE_A));
            bets.put(bet, BET_B, horses.cell(horse, HORSE_B));
            bets.put(bet, BET_RETURNED, NONE);
            bets.put(bet, BET_REASON, NONE);
            horses.raise(horse, HORSE_BETS, 1);
            horses.raise(horse, HORSE_WIN_STAKES, stake);
            horses.raise(horse, HORSE_PLACE_STAKES, eachWay ? stake : 0);
            return bet;
        }

        int addLaid(int horse, int stake, int a, int b) {
            int bet = laid.addRow();
            laid.put(bet, LAID_HORSE, horse);
            laid.put(bet, LAID_STAKE, stake);
            laid.put(bet, LAID_A, a);
            laid.put(bet, LAID_B, b);
            laid.put(bet, LAID_RETURNED, NONE);
            return bet;
        }

        /** Each bet that stands was taken before, so the cut falls on all of them, those on this horse too. */
        int takeOut(int horse) {
            int cut = Math.min(MOST_CUT, partOfPrice(100, horse));
            horses.put(horse, HORSE_RUNS, 0);
            horses.put(horse, HORSE_CUT, cut);
            for (int bet = 0; bet < bets.size(); bet++) {
                bets.put(bet, BET_CUTS, Math.min(MOST_CUTS, bets.cell(bet, BET_CUTS) + cut));
            }
            return cut;
        }

        /** The whole times b, divided by a and b together. */
        private int partOfPrice(int whole, int horse) {
            int b = horses.cell(horse, HORSE_B);
            int both = horses.cell(horse, HORSE_A) + b;
            return both > 0 ? whole * b / both : 0;
        }

        boolean runs(int horse) {
            return horses.cell(horse, HORSE_RUNS) == 1;
        }

        int running() {
            return horses.sum(HORSE_RUNS);
        }

        int places() {
            int field = running();
            if (field <= 4) {
                return 0;
            }
            return field <= 7 ? 2 : 3;
        }

        int round() {
            int all = 0;
            for (int horse = 0; horse < horses.size(); horse++) {
                if (runs(horse)) {
                    all += partOfPrice(1000, horse);
                }
            }
            return all;
        }

        private int wholeStake(int bet) {
            return bets.cell(bet, BET_STAKE) * (1 + bets.cell(bet, BET_EACH_WAY));
        }

        int stakes() {
            int all = 0;
            for (int bet = 0; bet < bets.size(); bet++) {
                all += wholeStake(bet);
            }
            return all;
        }

        /** What is paid out for a stake that counts: itself, and what is won with it, less the cuts. */
        private static int paid(int counting, int a, int b, int cuts) {
            if (b <= 0) {
                return counting;
            }
            return counting + counting * a / b * (100 - cuts) / 100;
        }

        private int winPart(int bet, Arrival arrival) {
            int horse = bets.cell(bet, BET_HORSE);
            int group = arrival.groupOf(horse);
            if (arrival.placeOf(horse) != 1 || group <= 0) {
                return 0;
            }
            return paid(bets.cell(bet, BET_STAKE) / group,
                    bets.cell(bet, BET_A), bets.cell(bet, BET_B), bets.cell(bet, BET_CUTS));
        }

        private int placePart(int bet, Arrival arrival) {
            if (bets.cell(bet, BET_EACH_WAY) == 0) {
                return 0;
            }
            int stake = bets.cell(bet, BET_STAKE);
            if (arrival.places() == 0) {
                return stake;
            }
            int horse = bets.cell(bet, BET_HORSE);
            int group = arrival.groupOf(horse);
            int within = Math.min(group, arrival.places() - arrival.placeOf(horse) + 1);
            if (group <= 0 || within <= 0) {
                return 0;
            }
            return paid(stake * within / group,
                    bets.cell(bet, BET_A), bets.cell(bet, BET_B) * pricePart, bets.cell(bet, BET_CUTS));
        }

        private int returnOf(int bet, Arrival arrival) {
            if (!runs(bets.cell(bet, BET_HORSE))) {
                return wholeStake(bet);
            }
            return winPart(bet, arrival) + placePart(bet, arrival);
        }

        private int reasonOf(int bet, Arrival arrival) {
            if (!runs(bets.cell(bet, BET_HORSE))) {
                return HORSE_WITHDRAWN;
            }
            if (winPart(bet, arrival) > 0) {
                return WON;
            }
            if (placePart(bet, arrival) == 0) {
                return NO_REASON;
            }
            return arrival.places() == 0 ? NO_PLACES : PLACED;
        }

        private int returnOfLaid(int bet, Arrival arrival) {
            int horse = laid.cell(bet, LAID_HORSE);
            int stake = laid.cell(bet, LAID_STAKE);
            if (!runs(horse)) {
                return stake;
            }
            int group = arrival.groupOf(horse);
            if (arrival.placeOf(horse) != 1 || group <= 0) {
                return 0;
            }
            return paid(stake / group, laid.cell(bet, LAID_A), laid.cell(bet, LAID_B), 0);
        }

        int wouldWin(Arrival arrival) {
            int wins = ZERO_LINE + stakes() - laid.sum(LAID_STAKE);
            for (int bet = 0; bet < bets.size(); bet++) {
                wins -= returnOf(bet, arrival);
            }
            for (int bet = 0; bet < laid.size(); bet++) {
                wins += returnOfLaid(bet, arrival);
            }
            return wins;
        }

        void settleBy(Arrival arrival) {
            for (int horse = 0; horse < horses.size(); horse++) {
                horses.put(horse, HORSE_PLACE, arrival.placeOf(horse));
                horses.put(horse, HORSE_GROUP, arrival.groupOf(horse));
            }
            for (int bet = 0; bet < bets.size(); bet++) {
                bets.put(bet, BET_RETURNED, returnOf(bet, arrival));
                bets.put(bet, BET_REASON, reasonOf(bet, arrival));
            }
            for (int bet = 0; bet < laid.size(); bet++) {
                laid.put(bet, LAID_RETURNED, returnOfLaid(bet, arrival));
            }
            settled = true;
        }

        int won() {
            int fromBets = stakes() - bets.sum(BET_RETURNED);
            int fromLaid = laid.sum(LAID_RETURNED) - laid.sum(LAID_STAKE);
            return ZERO_LINE + fromBets + fromLaid;
        }

        int wonByLosses() {
            int wins = ZERO_LINE;
            for (int bet = 0; bet < bets.size(); bet++) {
                wins += wholeStake(bet) - bets.cell(bet, BET_RETURNED);
            }
            for (int bet = 0; bet < laid.size(); bet++) {
                wins -= laid.cell(bet, LAID_STAKE) - laid.cell(bet, LAID_RETURNED);
            }
            return wins;
        }
    }

    /** Who arrived where, and how many places the field has; used again for each arrival. */
    private static final class Arrival {
        private final int[] firstPlaces;
        private final int[] groups;
        private int places;
        private int arrived;
        private int groupStart;

        Arrival() {
            firstPlaces = new int[MOST_HORSES];
            groups = new int[MOST_HORSES];
        }

        void begin(int placesOfField) {
            for (int horse = 0; horse < firstPlaces.length && horse < groups.length; horse++) {
                firstPlaces[horse] = NONE;
                groups[horse] = NONE;
            }
            places = placesOfField;
            arrived = 0;
            groupStart = 1;
        }

        void arrive(int horse, boolean withTheLast) {
            if (horse < 0 || horse >= firstPlaces.length) {
                return;
            }
            if (!withTheLast) {
                groupStart = arrived + 1;
            }
            arrived++;
            firstPlaces[horse] = groupStart;
            for (int other = 0; other < firstPlaces.length && other < groups.length; other++) {
                if (firstPlaces[other] == groupStart) {
                    groups[other] = arrived - groupStart + 1;
                }
            }
        }

        int places() {
            return places;
        }

        /** NONE if it is not told. */
        int placeOf(int horse) {
            return horse >= 0 && horse < firstPlaces.length ? firstPlaces[horse] : NONE;
        }

        /** NONE if it is not told. */
        int groupOf(int horse) {
            return horse >= 0 && horse < groups.length ? groups[horse] : NONE;
        }
    }

    /** The buffer. */
    private static final class Text {
        private final int[] codes;
        private int length;

        Text() {
            codes = new int[MOST_CODES];
        }

        int length() {
            return length;
        }

        boolean isFull() {
            return length >= codes.length;
        }

        void add(int code) {
            if (length >= 0 && length < codes.length) {
                codes[length] = code;
                length = length + 1;
            }
        }

        void empty() {
            length = 0;
        }

        int codeAt(int index) {
            return index >= 0 && index < length && index < codes.length ? codes[index] : 0;
        }

        int firstWrong() {
            int used = 0;
            for (int i = 0; i < length; i++) {
                int code = codeAt(i);
                if (i % 2 == 0) {
                    int letter = code - 'a';
                    if (letter < 0 || letter >= MOST_HORSES || (used & 1 << letter) != 0) {
                        return i;
                    }
                    used |= 1 << letter;
                } else if (i >= LONGEST_ARRIVAL || code != '>' && code != '=') {
                    return i;
                }
            }
            return length;
        }

        boolean isArrival() {
            return length % 2 == 1 && firstWrong() == length;
        }
    }

    /** The saved states, the latest of them just behind the next place to write to. */
    private static final class History {
        private final Book[] states;
        private int next;
        private int size;

        History() {
            states = new Book[MOST_SAVED];
            for (int i = 0; i < states.length; i++) {
                states[i] = new Book();
            }
        }

        int size() {
            return size;
        }

        private Book stateAt(int index) {
            return index >= 0 && index < states.length ? states[index] : null;
        }

        void save(Book book) {
            Book state = stateAt(next);
            if (state != null) {
                state.copyFrom(book);
                next = (next + 1) % MOST_SAVED;
                size = Math.min(size + 1, MOST_SAVED);
            }
        }

        void restore(Book book) {
            int latest = (next + MOST_SAVED - 1) % MOST_SAVED;
            Book state = stateAt(latest);
            if (size > 0 && state != null) {
                book.copyFrom(state);
                next = latest;
                size = size - 1;
            }
        }
    }

    /** Room for one snapshot. */
    private static final class Slot {
        private final Book book;
        private boolean full;

        Slot() {
            book = new Book();
        }

        boolean isFull() {
            return full;
        }

        void fill(Book from) {
            book.copyFrom(from);
            full = true;
        }

        void bringBack(Book into) {
            into.copyFrom(book);
        }
    }
}
