/** Promises 1 to 6: a new object, set, prize, add, coins, play. */
public final class ChangesTest {
    public static void main(String[] args) {
        newObject();
        set();
        prize();
        add();
        coins();
        playErrors();
        playWins();
        playGripTurnsFull();
        playAim();
        playFallsBack();
        playRolls();
        playFillsUp();
        Check.end();
    }

    /** Prizes of weights 50, 49, .. that no grip lifts at first, of one kind. */
    private static ClawCranes withPrizes(int many, int kind) {
        ClawCranes x = new ClawCranes();
        for (int i = 0; i < many; i++) {
            x.prize(kind, 50 - i, 1 + i);
        }
        return x;
    }

    private static void newObject() {
        ClawCranes x = new ClawCranes();
        for (int what = 0; what <= 9; what++) {
            Check.due("new: count(" + what + ")", x.count(what), 0);
        }
        Check.due("new: count(10)", x.count(10), 255);
        Check.due("new: count(11)", x.count(11), 0);
        int[] settings = {2, 20, 12, 45, 3, 2};
        for (int setting = 0; setting < 6; setting++) {
            Check.due("new: setting " + setting, x.count(12 + setting), settings[setting]);
        }
        Check.due("new: count(18)", x.count(18), 0);
        Check.due("new: count(19)", x.count(19), 0);
        Check.due("new: of(0, 0)", x.of(0, 0), ClawCranes.NO_SUCH);
        Check.due("new: at(0, 0)", x.at(0, 0), ClawCranes.NONE);
        Check.due("new: book(0, 0)", x.book(0, 0), ClawCranes.NO_SUCH);
        Check.due("new: restore(0)", x.restore(0), ClawCranes.NOT_POSSIBLE);
        Check.due("new: undo()", x.undo(), ClawCranes.NOT_POSSIBLE);
    }

    private static void set() {
        int[] least = {1, 1, 1, 1, 0, 0};
        int[] most = {9, 200, 60, 99, 9, 8};
        int[] first = {2, 20, 12, 45, 3, 2};
        for (int setting = 0; setting < 6; setting++) {
            ClawCranes x = new ClawCranes();
            Check.due("set below " + setting, x.set(setting, least[setting] - 1), ClawCranes.BAD_VALUE);
            Check.due("set above " + setting, x.set(setting, most[setting] + 1), ClawCranes.BAD_VALUE);
            Check.due("nothing recorded", x.count(19), 0);
            Check.due("set least " + setting, x.set(setting, least[setting]), first[setting]);
            Check.due("set most " + setting, x.set(setting, most[setting]), least[setting]);
            Check.due("set same " + setting, x.set(setting, most[setting]), most[setting]);
            for (int other = 0; other < 6; other++) {
                Check.due("setting " + other, x.count(12 + other), other == setting ? most[other] : first[other]);
            }
            Check.due("recorded", x.count(19), 3);
        }
        ClawCranes x = withPrizes(3, 0);
        Check.due("set(-1, 1)", x.set(-1, 1), ClawCranes.BAD_VALUE);
        Check.due("set(6, 1)", x.set(6, 1), ClawCranes.BAD_VALUE);
        x.set(ClawCranes.LACK, 8);
        Check.due("set fills nothing up", x.count(9), 0);
    }

    private static void prize() {
        ClawCranes x = new ClawCranes();
        int[][] bad = {{-1, 1, 1}, {3, 1, 1}, {0, 0, 1}, {0, 61, 1}, {0, 1, 0}, {0, 1, 100},
            {Integer.MIN_VALUE, 1, 1}, {0, Integer.MAX_VALUE, 1}, {0, 1, Integer.MIN_VALUE}};
        for (int[] a : bad) {
            Check.due("bad prize", x.prize(a[0], a[1], a[2]), ClawCranes.BAD_VALUE);
        }
        Check.due("nothing recorded", x.count(19), 0);
        Check.due("prize(0, 1, 1)", x.prize(0, 1, 1), 0);
        Check.due("prize(2, 60, 99)", x.prize(2, 60, 99), 1);
        for (int i = 2; i < 24; i++) {
            Check.due("prize " + i, x.prize(1, 2, 3), i);
        }
        Check.due("prize 24", x.prize(1, 2, 3), ClawCranes.TOO_MANY);
        Check.due("bad prize 24", x.prize(3, 2, 3), ClawCranes.BAD_VALUE);
        Check.due("store", x.count(8), (1 << 24) - 1);
        Check.due("recorded", x.count(19), 6);
    }

    private static void add() {
        ClawCranes x = new ClawCranes();
        Check.due("add(-1)", x.add(-1), ClawCranes.NO_SUCH);
        Check.due("add(8)", x.add(8), ClawCranes.NO_SUCH);
        Check.due("add(0), store empty", x.add(0), ClawCranes.NOT_POSSIBLE);
        x = withPrizes(5, 0);
        Check.due("add(7)", x.add(7), 0);
        Check.due("add(0)", x.add(0), 1);
        Check.due("at(7, 0)", x.at(7, 0), 0);
        Check.due("at(0, 0)", x.at(0, 0), 1);
        x = withPrizes(5, 0);
        for (int i = 0; i < 4; i++) {
            Check.due("add(3)", x.add(3), i);
            Check.due("at(3, i)", x.at(3, i), i);
        }
        Check.due("add(3), full", x.add(3), ClawCranes.TOO_MANY);
        Check.due("add(2)", x.add(2), 4);
        Check.due("add(3), full and store empty", x.add(3), ClawCranes.NOT_POSSIBLE);
        Check.due("no row of the book", x.book(0, 0), ClawCranes.NO_SUCH);
        Check.due("no filling", x.count(11), 0);
    }

    private static void coins() {
        ClawCranes x = new ClawCranes();
        Check.due("coins(0)", x.coins(0), ClawCranes.BAD_VALUE);
        Check.due("coins(-5)", x.coins(-5), ClawCranes.BAD_VALUE);
        Check.due("coins(100)", x.coins(100), ClawCranes.BAD_VALUE);
        Check.due("coins(1)", x.coins(1), 1);
        for (int i = 1; i <= 10; i++) {
            Check.due("coins(99)", x.coins(99), 1 + 99 * i > 999 ? 0 : 1 + 99 * i);
        }
        Check.due("coins(9)", x.coins(9), ClawCranes.TOO_MANY);
        Check.due("coins(100) above", x.coins(100), ClawCranes.BAD_VALUE);
        Check.due("coins(8)", x.coins(8), 999);
        Check.due("coins(1)", x.coins(1), ClawCranes.TOO_MANY);
        Check.due("credit", x.count(0), 999);
        Check.due("coins put in are not paid yet", x.count(1) + x.count(2), 0);
    }

    private static void playErrors() {
        ClawCranes x = new ClawCranes();
        Check.due("play(-1, 9)", x.play(-1, 9), ClawCranes.NO_SUCH);
        Check.due("play(8, 0)", x.play(8, 0), ClawCranes.NO_SUCH);
        Check.due("play(0, -1)", x.play(0, -1), ClawCranes.BAD_VALUE);
        Check.due("play(0, 5)", x.play(0, 5), ClawCranes.BAD_VALUE);
        Check.due("play(0, 0) without credit", x.play(0, 0), ClawCranes.NOT_POSSIBLE);
        x.coins(1);
        Check.due("play(0, 0) with 1", x.play(0, 0), ClawCranes.NOT_POSSIBLE);
        x.coins(1);
        Check.due("play(7, 4) with 2", x.play(7, 4), 0);
        Check.due("credit", x.count(0), 0);
        Check.due("paid since", x.count(1), 2);
        Check.due("paid", x.count(2), 2);
        Check.due("plays", x.count(3), 1);
    }

    private static void playWins() {
        ClawCranes x = new ClawCranes();
        x.prize(0, 12, 7);
        x.prize(0, 13, 8);
        x.prize(0, 12, 9);
        x.add(1);
        x.add(2);
        x.coins(99);
        Check.due("a load above the grip", x.play(2, 0), 1);
        Check.due("a load as much as the grip", x.play(1, 0), 10);
        Check.due("paid since", x.count(1), 0);
        Check.due("paid", x.count(2), 4);
        Check.due("won", x.of(0, 3), 2);
        Check.due("won: gone", x.of(0, 4), ClawCranes.NONE);
        Check.due("the column is filled up again", x.at(0, 0), 2);
        Check.due("the prize's number counts", x.play(0, 0), 12);
        Check.due("won", x.count(5), 2);
        Check.due("value won", x.count(7), 16);
        Check.due("empty column then", x.play(0, 0), 0);
    }

    private static void playGripTurnsFull() {
        ClawCranes x = new ClawCranes();
        x.prize(0, 45, 7);
        x.add(4);
        x.coins(99);
        for (int i = 0; i < 9; i++) {
            Check.due("weak play " + i, x.play(4, 0), 1);
            Check.due("weak", x.book(0, 3), 0);
        }
        Check.due("paid since", x.count(1), 18);
        Check.due("the play's own coins count", x.play(4, 0), 10);
        Check.due("full", x.book(0, 3), 1);
        Check.due("full plays", x.count(4), 1);
        Check.due("paid since", x.count(1), 0);
        x.set(ClawCranes.DUE, 2);
        Check.due("full at an empty column", x.play(4, 0), 0);
        Check.due("full is told", x.book(0, 3), 1);
        Check.due("full plays", x.count(4), 2);
        Check.due("nothing won: paid since stays", x.count(1), 2);
    }

    private static void playAim() {
        ClawCranes x = new ClawCranes();
        x.prize(0, 3, 1);
        x.add(0);
        x.coins(99);
        Check.due("12 - 4 * 3 < 3", x.play(0, 4), 1);
        Check.due("12 - 3 * 3 = 3", x.play(0, 3), 10);
        x.prize(1, 4, 1);
        x.add(0);
        Check.due("a ball is 5 more beside it", x.play(0, 2), 1);
        Check.due("12 - 3 = 4 + 5", x.play(0, 1), 11);
        x.prize(0, 10, 1);
        x.prize(2, 9, 1);
        x.add(5);
        x.add(5);
        Check.due("a box is as much beside it: 12 - 3 < 9 + 2", x.play(5, 1), 1);
        x.set(ClawCranes.SLIP, 1);
        Check.due("12 - 1 = 9 + 2", x.play(5, 1), 13);
        x.set(ClawCranes.SLIP, 9);
        x.set(ClawCranes.WEAK, 1);
        x.set(ClawCranes.DUE, 200);
        Check.due("a grip below 0", x.play(5, 4), 1);
    }

    private static void playFallsBack() {
        ClawCranes x = withPrizes(3, 2);
        x.coins(99);
        x.set(ClawCranes.LACK, 0);
        x.add(3);
        x.add(3);
        x.add(3);
        Check.due("a box slips", x.play(3, 0), 1);
        Check.due("it is at its place", x.at(3, 2), 2);
        x = withPrizes(4, 0);
        x.coins(99);
        for (int i = 0; i < 4; i++) {
            x.add(3);
        }
        Check.due("plush slips", x.play(3, 0), 1);
        Check.due("it is at its place", x.at(3, 3), 3);
        Check.due("slips", x.count(6), 1);
        Check.due("gripped", x.of(3, 5), 1);
        Check.due("not gripped", x.of(2, 5), 0);
    }

    /** The columns' heights before a play at column 3 (or an edge), and where the ball on top is then. */
    private static void rolls(int[] heights, int column, int where) {
        ClawCranes x = new ClawCranes();
        for (int i = 0; i < 24; i++) {
            x.prize(1, 60, 1);
        }
        x.set(ClawCranes.LACK, 0);
        for (int c = 0; c < 8; c++) {
            for (int h = 0; h < heights[c]; h++) {
                x.add(c);
            }
        }
        x.coins(9);
        int ball = x.at(column, heights[column] - 1);
        Check.due("told before", x.ifPlayed(column, 0), where == column ? 1 : 2);
        Check.due("a ball slips", x.play(column, 0), 1);
        int height = where == column ? heights[column] - 1 : heights[where];
        Check.due("the ball is there", x.of(ball, 4), 10 * where + height);
        Check.due("it lies there", x.at(where, height), ball);
        Check.due("slips", x.count(6), 1);
        Check.due("the book tells a slip", x.book(0, 0), 1);
        Check.due("of the column played at", x.book(0, 1), column);
    }

    private static void playRolls() {
        rolls(new int[] {0, 0, 0, 1, 0, 0, 0, 0}, 3, 3);
        rolls(new int[] {0, 0, 0, 2, 0, 0, 0, 0}, 3, 2);
        rolls(new int[] {0, 0, 1, 2, 1, 0, 0, 0}, 3, 3);
        rolls(new int[] {0, 0, 1, 3, 0, 0, 0, 0}, 3, 4);
        rolls(new int[] {0, 0, 0, 3, 1, 0, 0, 0}, 3, 2);
        rolls(new int[] {0, 0, 1, 3, 1, 0, 0, 0}, 3, 2);
        rolls(new int[] {0, 0, 2, 3, 1, 0, 0, 0}, 3, 4);
        rolls(new int[] {0, 0, 4, 4, 2, 0, 0, 0}, 3, 4);
        rolls(new int[] {0, 0, 2, 4, 4, 0, 0, 0}, 3, 2);
        rolls(new int[] {0, 0, 3, 4, 3, 0, 0, 0}, 3, 3);
        rolls(new int[] {2, 0, 0, 0, 0, 0, 0, 0}, 0, 1);
        rolls(new int[] {2, 1, 0, 0, 0, 0, 0, 0}, 0, 0);
        rolls(new int[] {0, 2, 0, 0, 0, 0, 0, 0}, 1, 0);
        rolls(new int[] {0, 0, 0, 0, 0, 0, 2, 0}, 6, 5);
        rolls(new int[] {0, 0, 0, 0, 0, 1, 3, 0}, 6, 7);
        rolls(new int[] {0, 0, 0, 0, 0, 0, 0, 4}, 7, 6);
        rolls(new int[] {0, 0, 0, 0, 0, 0, 3, 4}, 7, 7);
    }

    private static void playFillsUp() {
        ClawCranes x = withPrizes(6, 0);
        x.coins(99);
        x.add(0);
        x.add(0);
        Check.due("as many as LACK: nothing comes", x.play(5, 0), 0);
        Check.due("fillings", x.count(11), 0);
        x.set(ClawCranes.LACK, 5);
        Check.due("play at an empty column", x.play(1, 0), 0);
        Check.due("pit", x.count(9), 31);
        Check.due("store", x.count(8), 32);
        Check.due("the first one to the lowest column", x.at(1, 0), 2);
        Check.due("the next one", x.at(2, 0), 3);
        Check.due("the next one", x.at(3, 0), 4);
        Check.due("fillings", x.count(11), 1);
        Check.due("the latest row", x.book(0, 0), 3);
        Check.due("before it the play", x.book(1, 0), 0);
        x.set(ClawCranes.LACK, 8);
        x.play(0, 0);
        Check.due("until the store is empty", x.book(0, 2), 1);
        x.play(0, 0);
        Check.due("an empty store: no filling", x.count(11), 2);
        Check.due("an empty store: no row", x.book(0, 0), 1);
    }
}
