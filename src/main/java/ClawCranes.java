/**
 * A claw crane that tightens its grip by how much was paid since the last prize.
 *
 * Every row is made once, with the crane; no call makes an object.
 */
public final class ClawCranes {
    public static final int NO_SUCH = -1, BAD_VALUE = -2, BAD_TEXT = -3, TOO_MANY = -4, NOT_POSSIBLE = -5, NONE = -6;
    public static final int COIN = 0, DUE = 1, WEAK = 2, FULL = 3, SLIP = 4, LACK = 5;

    private static final int[] LEAST_SETTING = {1, 1, 1, 1, 0, 0};
    private static final int[] MOST_SETTING = {9, 200, 60, 99, 9, 8};
    private static final int[] FIRST_SETTING = {2, 20, 12, 45, 3, 2};
    private static final int SETTINGS = 6;

    private static final int COLUMNS = 8;
    private static final int COLUMN_PRIZES = 4;
    private static final int MOST_PRIZES = 24;
    private static final int MOST_WEIGHT = 60;
    private static final int MOST_VALUE = 99;
    private static final int MOST_COINS = 99;
    private static final int MOST_CREDIT = 999;
    private static final int MOST_AIM = 4;
    private static final int BOOK_ROWS = 10;
    private static final int BOOK_FIELDS = 4;
    private static final int PAD_LENGTH = 80;
    private static final int PUT_LENGTH = 8;
    private static final int HISTORY_STATES = 6;
    private static final int SLOTS = 2;

    private static final int PLUSH = 0, BALL = 1, BOX = 2;
    private static final int IN_STORE = 0, IN_PIT = 1, WON = 2;
    private static final int NOTHING = 0, FALLS_BACK = 1, ROLLS = 2, WINS = 10;
    private static final int TOLD_NOTHING = 0, TOLD_SLIP = 1, TOLD_WIN = 2, TOLD_FILLING = 3;

    private final Crane crane = new Crane();
    private final Crane[] slots = new Crane[SLOTS];
    private final boolean[] saved = new boolean[SLOTS];
    private final History history = new History();
    private final Pad pad = new Pad();

    public ClawCranes() {
        for (int slot = 0; slot < SLOTS; slot++) {
            slots[slot] = new Crane();
        }
    }

    // ---- changes

    public int set(int setting, int value) {
        history.note(crane);
        return recorded(crane.changeSetting(setting, value));
    }

    public int prize(int kind, int weight, int value) {
        history.note(crane);
        return recorded(crane.takePrize(kind, weight, value));
    }

    public int add(int column) {
        history.note(crane);
        return recorded(crane.addToColumn(column));
    }

    public int coins(int many) {
        history.note(crane);
        return recorded(crane.takeCoins(many));
    }

    public int play(int column, int aim) {
        history.note(crane);
        return recorded(crane.playForCredit(column, aim));
    }

    /** Every change answers 0 or more; an error must leave no trace in the history. */
    private int recorded(int answer) {
        if (answer >= 0) {
            history.keepNoted();
        }
        return answer;
    }

    // ---- what there is

    public int of(int prize, int what) {
        if (prize < 0 || prize >= crane.prizes.came) {
            return NO_SUCH;
        }
        switch (what) {
            case 0: return crane.prizes.kind[prize];
            case 1: return crane.prizes.weight[prize];
            case 2: return crane.prizes.value[prize];
            case 3: return crane.prizes.place[prize];
            case 4: return crane.pit.spotOf(prize);
            case 5: return crane.prizes.grips[prize];
            default: return BAD_VALUE;
        }
    }

    public int at(int column, int height) {
        return isColumn(column) ? crane.pit.prizeAt(column, height) : NO_SUCH;
    }

    public int book(int rank, int what) {
        if (rank < 0 || rank >= crane.diary.size) {
            return NO_SUCH;
        }
        if (what < 0 || what >= BOOK_FIELDS) {
            return BAD_VALUE;
        }
        return crane.diary.tell(rank, what);
    }

    public int byValue(int rank) {
        return crane.prizes.inPitByValue(rank);
    }

    public int lighter(int weight) {
        return weight < 0 ? BAD_VALUE : crane.prizes.inPitUpTo(weight);
    }

    public int count(int what) {
        if (what >= 12 && what < 12 + SETTINGS) {
            return crane.settings[what - 12];
        }
        switch (what) {
            case 0: return crane.credit;
            case 1: return crane.paidSincePrize;
            case 2: return crane.paid;
            case 3: return crane.plays;
            case 4: return crane.fullPlays;
            case 5: return Integer.bitCount(crane.prizes.setIn(WON));
            case 6: return crane.slips;
            case 7: return crane.prizes.valueWon();
            case 8: return crane.prizes.setIn(IN_STORE);
            case 9: return crane.prizes.setIn(IN_PIT);
            case 10: return crane.pit.emptyColumns();
            case 11: return crane.fillings;
            case 18: return pad.length;
            case 19: return history.size;
            default: return BAD_VALUE;
        }
    }

    // ---- what if; nothing changes

    public int ifPlayed(int column, int aim) {
        int error = errorOfAim(column, aim);
        return error < 0 ? error : crane.outcome(column, aim);
    }

    public int load(int column, int aim) {
        int error = errorOfAim(column, aim);
        if (error < 0) {
            return error;
        }
        return crane.pit.top(column) < 0 ? NONE : crane.loadOfTop(column, aim);
    }

    public int untilFull() {
        return crane.playsUntilFull();
    }

    public int bestColumn() {
        int best = NONE;
        int most = 0;
        for (int column = 0; column < COLUMNS; column++) {
            int value = crane.valueIfWon(column);
            if (value > most) {
                most = value;
                best = column;
            }
        }
        return best;
    }

    public int costs(int column) {
        if (!isColumn(column)) {
            return NO_SUCH;
        }
        return crane.pit.top(column) < 0 ? NOT_POSSIBLE : crane.coinsToWin(column);
    }

    // ---- texts

    public int put(long characters) {
        int many = Pad.signsIn(characters);
        if (many == 0) {
            return BAD_VALUE;
        }
        if (pad.length + many > PAD_LENGTH) {
            return TOO_MANY;
        }
        pad.append(characters, many);
        return pad.length;
    }

    public int wipe() {
        int length = pad.length;
        pad.length = 0;
        return length;
    }

    public int fault() {
        return pad.firstFault();
    }

    public int carryOut() {
        if (pad.firstFault() != NONE) {
            return BAD_TEXT;
        }
        history.note(crane);
        pad.begin();
        int done = 0;
        while (done < PAD_LENGTH && pad.nextOrder() && carriedOrder() >= 0) {
            done++;
        }
        pad.length = 0;
        return recorded(done);
    }

    private int carriedOrder() {
        switch (pad.letter) {
            case 'c': return crane.takeCoins(pad.first);
            case 'p': return crane.playForCredit(pad.first, pad.second);
            case 'n': return crane.takePrize(pad.first, pad.second, pad.third);
            case 'a': return crane.addToColumn(pad.first);
            default: return BAD_TEXT;
        }
    }

    // ---- undo, saving

    public int undo() {
        if (history.size == 0) {
            return NOT_POSSIBLE;
        }
        history.stepBack(crane);
        return history.size;
    }

    public int save(int slot) {
        if (!isSlot(slot)) {
            return BAD_VALUE;
        }
        slots[slot].copyFrom(crane);
        saved[slot] = true;
        return crane.prizes.came;
    }

    public int restore(int slot) {
        if (!isSlot(slot)) {
            return BAD_VALUE;
        }
        if (!saved[slot]) {
            return NOT_POSSIBLE;
        }
        history.note(crane);
        crane.copyFrom(slots[slot]);
        return recorded(crane.prizes.came);
    }

    private static boolean isSlot(int slot) {
        return slot >= 0 && slot < SLOTS;
    }

    private static boolean isColumn(int column) {
        return column >= 0 && column < COLUMNS;
    }

    /** The error of a column and an aim, in the order of the document; 0 if there is none. */
    private static int errorOfAim(int column, int aim) {
        if (!isColumn(column)) {
            return NO_SUCH;
        }
        return aim < 0 || aim > MOST_AIM ? BAD_VALUE : 0;
    }

    /** All that undo and the slots bring back. */
    private static final class Crane {
        private final int[] settings = new int[SETTINGS];
        private final Prizes prizes = new Prizes();
        private final Pit pit = new Pit();
        private final Diary diary = new Diary();
        private int credit;
        private int paidSincePrize;
        private int paid;
        private int plays;
        private int fullPlays;
        private int slips;
        private int fillings;

        private Crane() {
            System.arraycopy(FIRST_SETTING, 0, settings, 0, SETTINGS);
        }

        private void copyFrom(Crane other) {
            System.arraycopy(other.settings, 0, settings, 0, SETTINGS);
            prizes.copyFrom(other.prizes);
            pit.copyFrom(other.pit);
            diary.copyFrom(other.diary);
            credit = other.credit;
            paidSincePrize = other.paidSincePrize;
            paid = other.paid;
            plays = other.plays;
            fullPlays = other.fullPlays;
            slips = other.slips;
            fillings = other.fillings;
        }

        private int changeSetting(int setting, int value) {
            if (setting < 0 || setting >= SETTINGS) {
                return BAD_VALUE;
            }
            if (value < LEAST_SETTING[setting] || value > MOST_SETTING[setting]) {
                return BAD_VALUE;
            }
            int previous = settings[setting];
            settings[setting] = value;
            return previous;
        }

        private int takePrize(int kind, int weight, int value) {
            boolean right = kind >= PLUSH && kind <= BOX
                    && weight >= 1 && weight <= MOST_WEIGHT
                    && value >= 1 && value <= MOST_VALUE;
            if (!right) {
                return BAD_VALUE;
            }
            return prizes.came >= MOST_PRIZES ? TOO_MANY : prizes.come(kind, weight, value);
        }

        private int addToColumn(int column) {
            if (!isColumn(column)) {
                return NO_SUCH;
            }
            if (prizes.storeIsEmpty()) {
                return NOT_POSSIBLE;
            }
            if (pit.heights[column] >= COLUMN_PRIZES) {
                return TOO_MANY;
            }
            int prize = prizes.leaveStore();
            pit.lay(column, prize);
            return prize;
        }

        private int takeCoins(int many) {
            if (many < 1 || many > MOST_COINS) {
                return BAD_VALUE;
            }
            if (credit + many > MOST_CREDIT) {
                return TOO_MANY;
            }
            credit += many;
            return credit;
        }

        private int playForCredit(int column, int aim) {
            int error = errorOfAim(column, aim);
            if (error < 0) {
                return error;
            }
            return credit < settings[COIN] ? NOT_POSSIBLE : pull(column, aim);
        }

        /** A play whose errors have been ruled out. */
        private int pull(int column, int aim) {
            int outcome = outcome(column, aim);
            int prize = pit.top(column);
            boolean full = nextGripIsFull();
            pay(full);
            if (prize < 0) {
                diary.write(TOLD_NOTHING, column, NONE, full);
            } else {
                prizes.grips[prize]++;
                moveGripped(column, prize, outcome);
                diary.write(outcome >= WINS ? TOLD_WIN : TOLD_SLIP, column, prize, full);
            }
            fillUp();
            return outcome == ROLLS ? FALLS_BACK : outcome;
        }

        private void pay(boolean full) {
            credit -= settings[COIN];
            paid += settings[COIN];
            paidSincePrize += settings[COIN];
            plays++;
            if (full) {
                fullPlays++;
            }
        }

        private void moveGripped(int column, int prize, int outcome) {
            if (outcome >= WINS) {
                pit.lift(column);
                prizes.place[prize] = WON;
                paidSincePrize = 0;
                return;
            }
            slips++;
            int target = outcome == ROLLS ? pit.rollTarget(column) : NONE;
            if (isColumn(target)) {
                pit.lift(column);
                pit.lay(target, prize);
            }
        }

        private void fillUp() {
            int lacking = settings[LACK] - pit.prizesInAll();
            int filled = 0;
            while (filled < lacking && !prizes.storeIsEmpty()) {
                int column = pit.lowestColumn();
                if (pit.heights[column] >= COLUMN_PRIZES) {
                    break;
                }
                pit.lay(column, prizes.leaveStore());
                filled++;
            }
            if (filled > 0) {
                fillings++;
                diary.write(TOLD_FILLING, NONE, filled, false);
            }
        }

        /** What a play would do, whether there is credit or not. */
        private int outcome(int column, int aim) {
            int prize = pit.top(column);
            if (prize < 0) {
                return NOTHING;
            }
            if (grip(aim) >= loadOfTop(column, aim)) {
                return WINS + prize;
            }
            boolean rolls = prizes.kind[prize] == BALL && isColumn(pit.rollTarget(column));
            return rolls ? ROLLS : FALLS_BACK;
        }

        private int grip(int aim) {
            int straight = nextGripIsFull() ? settings[FULL] : settings[WEAK];
            return straight - settings[SLIP] * aim;
        }

        /** The coins of a play count for its own grip. */
        private boolean nextGripIsFull() {
            return paidSincePrize + settings[COIN] >= settings[DUE];
        }

        private int loadOfTop(int column, int aim) {
            int prize = pit.top(column);
            if (prize < 0) {
                return 0;
            }
            int weight = prizes.weight[prize];
            switch (prizes.kind[prize]) {
                case BALL: return aim >= 1 ? weight + 5 : weight;
                case BOX: return weight + 2 * (pit.heights[column] - 1);
                default: return weight;
            }
        }

        private int playsUntilFull() {
            int coin = Math.max(1, settings[COIN]);
            int away = 0;
            for (int sum = paidSincePrize + coin; sum < settings[DUE]; sum += coin) {
                away++;
            }
            return away;
        }

        /** The value of the prize that a play with the aim 0 would win, 0 if it would win none. */
        private int valueIfWon(int column) {
            int prize = outcome(column, 0) - WINS;
            return prize < 0 || prize >= MOST_PRIZES ? 0 : prizes.value[prize];
        }

        /**
         * Only the grip changes while a column is played at: filling up takes empty columns first, and while
         * none is empty none is lacking, so nothing comes on top; and the neighbours only grow, so that a ball
         * that stays now stays for good. The full grip is never as far away as the plays that are asked for.
         */
        private int coinsToWin(int column) {
            int outcome = outcome(column, 0);
            if (outcome >= WINS) {
                return settings[COIN];
            }
            if (outcome == ROLLS || settings[FULL] < loadOfTop(column, 0)) {
                return NONE;
            }
            return (playsUntilFull() + 1) * settings[COIN];
        }
    }

    /** The prizes that came so far; no prize ever goes back to the store, so it is the last ones of them. */
    private static final class Prizes {
        private final int[] kind = new int[MOST_PRIZES];
        private final int[] weight = new int[MOST_PRIZES];
        private final int[] value = new int[MOST_PRIZES];
        private final int[] place = new int[MOST_PRIZES];
        private final int[] grips = new int[MOST_PRIZES];
        private int came;
        private int leftStore;

        private void copyFrom(Prizes other) {
            System.arraycopy(other.kind, 0, kind, 0, MOST_PRIZES);
            System.arraycopy(other.weight, 0, weight, 0, MOST_PRIZES);
            System.arraycopy(other.value, 0, value, 0, MOST_PRIZES);
            System.arraycopy(other.place, 0, place, 0, MOST_PRIZES);
            System.arraycopy(other.grips, 0, grips, 0, MOST_PRIZES);
            came = other.came;
            leftStore = other.leftStore;
        }

        private int come(int itsKind, int itsWeight, int itsValue) {
            int prize = came;
            kind[prize] = itsKind;
            weight[prize] = itsWeight;
            value[prize] = itsValue;
            came++;
            return prize;
        }

        private boolean storeIsEmpty() {
            return leftStore >= came;
        }

        private int leaveStore() {
            int prize = leftStore;
            place[prize] = IN_PIT;
            leftStore++;
            return prize;
        }

        private int setIn(int where) {
            int set = 0;
            for (int prize = 0; prize < came; prize++) {
                if (place[prize] == where) {
                    set |= 1 << prize;
                }
            }
            return set;
        }

        private int valueWon() {
            int sum = 0;
            for (int prize = 0; prize < came; prize++) {
                if (place[prize] == WON) {
                    sum += value[prize];
                }
            }
            return sum;
        }

        private int inPitUpTo(int most) {
            int many = 0;
            for (int prize = 0; prize < came; prize++) {
                if (place[prize] == IN_PIT && weight[prize] <= most) {
                    many++;
                }
            }
            return many;
        }

        private int inPitByValue(int rank) {
            for (int prize = 0; prize < came; prize++) {
                if (place[prize] == IN_PIT && rankInPit(prize) == rank) {
                    return prize;
                }
            }
            return NO_SUCH;
        }

        private int rankInPit(int prize) {
            int rank = 0;
            for (int other = 0; other < came; other++) {
                if (place[other] == IN_PIT && isBefore(other, prize)) {
                    rank++;
                }
            }
            return rank;
        }

        private boolean isBefore(int one, int other) {
            if (value[one] != value[other]) {
                return value[one] > value[other];
            }
            if (weight[one] != weight[other]) {
                return weight[one] < weight[other];
            }
            return one < other;
        }
    }

    /** The columns, each a row of prizes from the lowest one. */
    private static final class Pit {
        private final int[] cells = new int[COLUMNS * COLUMN_PRIZES];
        private final int[] heights = new int[COLUMNS];

        private void copyFrom(Pit other) {
            System.arraycopy(other.cells, 0, cells, 0, COLUMNS * COLUMN_PRIZES);
            System.arraycopy(other.heights, 0, heights, 0, COLUMNS);
        }

        private int prizeAt(int column, int height) {
            if (height < 0 || height >= heights[column]) {
                return NONE;
            }
            return cells[column * COLUMN_PRIZES + height];
        }

        private int top(int column) {
            int height = heights[column];
            return height > 0 ? cells[column * COLUMN_PRIZES + height - 1] : NONE;
        }

        private int spotOf(int prize) {
            for (int column = 0; column < COLUMNS; column++) {
                for (int height = 0; height < heights[column]; height++) {
                    if (prizeAt(column, height) == prize) {
                        return 10 * column + height;
                    }
                }
            }
            return NONE;
        }

        private void lay(int column, int prize) {
            if (heights[column] < COLUMN_PRIZES) {
                cells[column * COLUMN_PRIZES + heights[column]] = prize;
                heights[column]++;
            }
        }

        private void lift(int column) {
            if (heights[column] > 0) {
                heights[column]--;
            }
        }

        private int prizesInAll() {
            int sum = 0;
            for (int column = 0; column < COLUMNS; column++) {
                sum += heights[column];
            }
            return sum;
        }

        private int lowestColumn() {
            int lowest = 0;
            for (int column = 1; column < COLUMNS; column++) {
                if (heights[column] < heights[lowest]) {
                    lowest = column;
                }
            }
            return lowest;
        }

        private int emptyColumns() {
            int set = 0;
            for (int column = 0; column < COLUMNS; column++) {
                if (heights[column] == 0) {
                    set |= 1 << column;
                }
            }
            return set;
        }

        /** Where a ball on top of a column rolls to, NONE if it stays. */
        private int rollTarget(int column) {
            int left = heightOrWall(column - 1);
            int right = heightOrWall(column + 1);
            if (heights[column] - Math.min(left, right) < 2) {
                return NONE;
            }
            return right < left ? column + 1 : column - 1;
        }

        /** A wall is as high as the highest column, so that nothing rolls over it. */
        private int heightOrWall(int column) {
            return column >= 0 && column < COLUMNS ? heights[column] : COLUMN_PRIZES;
        }
    }

    /** The book: a ring of the latest rows. */
    private static final class Diary {
        private final int[] rows = new int[BOOK_ROWS * BOOK_FIELDS];
        private int size;
        private int latest;

        private void copyFrom(Diary other) {
            System.arraycopy(other.rows, 0, rows, 0, BOOK_ROWS * BOOK_FIELDS);
            size = other.size;
            latest = other.latest;
        }

        private void write(int what, int column, int prize, boolean full) {
            latest = (latest + 1) % BOOK_ROWS;
            size = Math.min(size + 1, BOOK_ROWS);
            int start = latest * BOOK_FIELDS;
            rows[start] = what;
            rows[start + 1] = column;
            rows[start + 2] = prize;
            rows[start + 3] = full ? 1 : 0;
        }

        private int tell(int rank, int what) {
            int row = (latest - rank + BOOK_ROWS) % BOOK_ROWS;
            return rows[row * BOOK_FIELDS + what];
        }
    }

    /** The states to which undo goes back: a ring, with one row more for the state before a change that may yet fail. */
    private static final class History {
        private final Crane[] states = new Crane[HISTORY_STATES + 1];
        private int size;
        private int spare;

        private History() {
            for (int state = 0; state <= HISTORY_STATES; state++) {
                states[state] = new Crane();
            }
        }

        private void note(Crane now) {
            states[spare].copyFrom(now);
        }

        private void keepNoted() {
            spare = (spare + 1) % (HISTORY_STATES + 1);
            size = Math.min(size + 1, HISTORY_STATES);
        }

        private void stepBack(Crane now) {
            spare = (spare + HISTORY_STATES) % (HISTORY_STATES + 1);
            size--;
            now.copyFrom(states[spare]);
        }
    }

    /** The text of orders; reading it from left to right stays at the first character that cannot stand there. */
    private static final class Pad {
        private static final int END = 0;

        private final char[] signs = new char[PAD_LENGTH];
        private int length;
        private int place;
        private boolean faulty;
        private int letter;
        private int first;
        private int second;
        private int third;

        /** How many characters a number holds; 0, which no right number holds, stands for an error. */
        private static int signsIn(long characters) {
            long rest = characters;
            int many = 0;
            while (many < PUT_LENGTH && rest != 0) {
                long code = rest & 255;
                if (code < 33 || code > 126) {
                    return 0;
                }
                rest >>>= 8;
                many++;
            }
            return many;
        }

        private void append(long characters, int many) {
            for (int left = many - 1; left >= 0 && length < PAD_LENGTH; left--) {
                signs[length] = (char) ((characters >>> (8 * left)) & 255);
                length++;
            }
        }

        private void begin() {
            place = 0;
            faulty = false;
        }

        private int firstFault() {
            begin();
            for (int orders = 0; orders <= PAD_LENGTH && nextOrder(); orders++) {
                if (place >= length) {
                    return NONE;
                }
            }
            return place;
        }

        /** Reads one order, with the semicolon before it if it is not the first; false if there is none. */
        private boolean nextOrder() {
            if (place > 0) {
                expect(';');
            }
            letter = here();
            switch (letter) {
                case 'c': readCoins(); break;
                case 'p': readPlay(); break;
                case 'n': readPrize(); break;
                case 'a': readAdding(); break;
                default: faulty = true;
            }
            return !faulty;
        }

        private void readCoins() {
            expect('c');
            first = number();
        }

        private void readPlay() {
            expect('p');
            first = digit();
            second = 0;
            if (here() == '/') {
                expect('/');
                second = digit();
            }
        }

        private void readPrize() {
            expect('n');
            first = kind();
            second = number();
            expect('=');
            third = number();
        }

        private void readAdding() {
            expect('a');
            first = digit();
        }

        private int kind() {
            switch (here()) {
                case 'p': expect('p'); return PLUSH;
                case 'b': expect('b'); return BALL;
                case 'x': expect('x'); return BOX;
                default: faulty = true; return PLUSH;
            }
        }

        /** A third digit, or one behind a 0, is left for what comes next, which cannot be a digit. */
        private int number() {
            int number = digit();
            if (number > 0 && isDigit(here())) {
                number = 10 * number + digit();
            }
            return number;
        }

        private int digit() {
            int sign = here();
            if (faulty || !isDigit(sign)) {
                faulty = true;
                return 0;
            }
            place++;
            return sign - '0';
        }

        private static boolean isDigit(int sign) {
            return sign >= '0' && sign <= '9';
        }

        private void expect(int sign) {
            if (faulty || here() != sign) {
                faulty = true;
            } else {
                place++;
            }
        }

        private int here() {
            return place >= 0 && place < length ? signs[place] : END;
        }
    }
}
