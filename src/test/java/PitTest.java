/** Terms: The pit, prizes; promises 1, 3, 4 and 5: a new object, prize, add, coins. */
public final class PitTest {
    public static void main(String[] args) {
        newObject();
        numberedFrom0();
        columns();
        columnsOfFour();
        numbersOfPrizes();
        places();
        order();
        lowerColumns();
        prizeComes();
        prizeRanges();
        prizeTooMany();
        addNext();
        addErrors();
        coinsIn();
        coinsRange();
        coinsTooMany();
        Check.end();
    }

    private static void newObject() {
        Check.sentence("Promise 1", "Creates a crane with an empty pit, an empty store and no credit");
        ClawCranes x = new ClawCranes();
        for (int what = 0; what <= 19; what++) {
            if (what != 10 && (what < 12 || what > 17)) {
                Check.due("count(" + what + ")", x.count(what), 0);
            }
        }
        Check.due("empty columns", x.count(10), 255);
        for (int column = 0; column < 8; column++) {
            Check.due("at(" + column + ", 0)", x.at(column, 0), ClawCranes.NONE);
        }
        Check.due("no prize", x.of(0, 0), ClawCranes.NO_SUCH);
        Check.due("no row of the book", x.book(0, 0), ClawCranes.NO_SUCH);
        Check.due("nothing saved in slot 0", x.restore(0), ClawCranes.NOT_POSSIBLE);
        Check.due("nothing saved in slot 1", x.restore(1), ClawCranes.NOT_POSSIBLE);
        Check.due("nothing to undo", x.undo(), ClawCranes.NOT_POSSIBLE);
        Check.due("no credit", x.play(0, 0), ClawCranes.NOT_POSSIBLE);
        Check.due("an empty store", x.add(0), ClawCranes.NOT_POSSIBLE);
        Check.due("an empty pad", x.wipe(), 0);
    }

    private static void numberedFrom0() {
        Check.sentence("Terms", "Everything is numbered from 0");
        ClawCranes x = Cranes.withCredit(20);
        Check.due("the first prize", x.prize(Cranes.PLUSH, 12, 1), 0);
        x.prize(Cranes.PLUSH, 13, 1);
        Check.due("the first column", x.add(0), 0);
        Check.due("the first height", x.at(0, 0), 0);
        Check.due("the first rank by value", x.byValue(0), 0);
        Check.due("the first setting", x.set(0, 3), 2);
        Check.due("the first play", x.play(0, 0), 10);
        Check.due("the first rank of the book is the filling", x.book(0, 0), 3);
        Check.due("the first slot", x.save(0), 2);
        x = Cranes.withPad("x");
        Check.due("the first character", x.fault(), 0);
    }

    private static void columns() {
        Check.sentence("Terms", "The pit has 8 columns, 0 to 7, each with up to 4 prizes, one on the other");
        ClawCranes x = Cranes.withColumns(Cranes.PLUSH, 1, 1, 1, 1, 1, 1, 1, 1, 1);
        Cranes.store(x, 1, Cranes.PLUSH, 1);
        for (int column = 0; column < 8; column++) {
            Check.due("at(" + column + ", 0)", x.at(column, 0), column);
            Check.due("of(" + column + ", 4)", x.of(column, 4), 10 * column);
            Check.due("load(" + column + ", 0)", x.load(column, 0), 1);
            Check.due("costs(" + column + ")", x.costs(column), 2);
            Check.due("ifPlayed(" + column + ", 0)", x.ifPlayed(column, 0), 10 + column);
            Check.due("play(" + column + ", 0)", x.play(column, 0), 10 + column);
        }
        for (int column : Cranes.NO_COLUMNS) {
            Check.due("add(" + column + ")", x.add(column), ClawCranes.NO_SUCH);
            Check.due("at(" + column + ", 0)", x.at(column, 0), ClawCranes.NO_SUCH);
            Check.due("load(" + column + ", 0)", x.load(column, 0), ClawCranes.NO_SUCH);
            Check.due("costs(" + column + ")", x.costs(column), ClawCranes.NO_SUCH);
            Check.due("ifPlayed(" + column + ", 0)", x.ifPlayed(column, 0), ClawCranes.NO_SUCH);
            Check.due("play(" + column + ", 0)", x.play(column, 0), ClawCranes.NO_SUCH);
        }
    }

    private static void columnsOfFour() {
        Check.sentence("Terms", "The pit has 8 columns, 0 to 7, each with up to 4 prizes, one on the other");
        for (int column = 0; column < 8; column += 7) {
            ClawCranes x = new ClawCranes();
            Cranes.store(x, 6, Cranes.PLUSH, 1);
            for (int i = 0; i < 4; i++) {
                Check.due("prize " + (i + 1) + " of column " + column, x.add(column), i);
            }
            Check.due("a fifth one", x.add(column), ClawCranes.TOO_MANY);
            for (int i = 0; i < 4; i++) {
                Check.due("one on the other", x.of(i, 4), 10 * column + i);
            }
            Check.due("the fifth one stays in the store", x.of(4, 3), 0);
            x.coins(2);
            Check.due("the top one is won", x.play(column, 0), 13);
            Check.due("then there is room for one", x.add(column), 4);
            Check.due("and for no other", x.add(column), ClawCranes.TOO_MANY);
        }
    }

    private static void numbersOfPrizes() {
        Check.sentence("Terms", "There are up to 24 prizes so far, numbered in the order in which they came");
        ClawCranes x = Cranes.withCredit(10);
        x.set(ClawCranes.LACK, 0);
        for (int i = 0; i < 24; i++) {
            Check.due("prize " + i, x.prize(i % 3, 1 + i, 99 - i), i);
        }
        for (int i = 0; i < 24; i++) {
            Check.due("kind of " + i, x.of(i, 0), i % 3);
            Check.due("weight of " + i, x.of(i, 1), 1 + i);
            Check.due("value of " + i, x.of(i, 2), 99 - i);
        }
        Check.due("a 25th one", x.prize(0, 1, 1), ClawCranes.TOO_MANY);
        x.add(0);
        x.play(0, 0);
        Check.due("one was won, and still there have been 24", x.prize(0, 1, 1), ClawCranes.TOO_MANY);
    }

    private static void places() {
        Check.sentence("Terms", "A prize is in the store (0), in the pit (1), or was won (2)");
        ClawCranes x = Cranes.withCredit(10);
        Cranes.store(x, 3, Cranes.PLUSH, 12);
        x.set(ClawCranes.LACK, 0);
        Check.due("it comes to the store", x.of(0, 3), 0);
        x.add(0);
        x.add(0);
        Check.due("added", x.of(0, 3), 1);
        x.play(0, 0);
        Check.due("won", x.of(1, 3), 2);
        Check.due("the one beneath it", x.of(0, 3), 1);
        Check.due("the one that was not added", x.of(2, 3), 0);
        x.play(0, 4);
        Check.due("slipped: in the pit as before", x.of(0, 3), 1);
        x.set(ClawCranes.LACK, 8);
        x.play(7, 0);
        Check.due("filled up", x.of(2, 3), 1);
    }

    private static void order() {
        Check.sentence("Terms", "The store gives the one first that came first");
        ClawCranes x = Cranes.withCredit(10);
        x.prize(Cranes.BOX, 60, 1);
        x.prize(Cranes.PLUSH, 1, 99);
        x.prize(Cranes.BALL, 30, 50);
        Check.due("the first one", x.add(3), 0);
        Check.due("then the second one", x.add(3), 1);
        x.prize(Cranes.PLUSH, 2, 2);
        x.set(ClawCranes.LACK, 3);
        x.play(7, 0);
        Check.due("filling up takes the third one", x.at(0, 0), 2);
        Check.due("the fourth one is the next", x.add(7), 3);
        Check.due("none is left", x.add(7), ClawCranes.NOT_POSSIBLE);
    }

    private static void lowerColumns() {
        Check.sentence("Terms", "A column is lower than another one if it has fewer prizes");
        ClawCranes x = Cranes.withCredit(10);
        x.set(ClawCranes.LACK, 0);
        x.prize(Cranes.BOX, 60, 1);
        x.add(2);
        Cranes.store(x, 3, Cranes.BALL, 60);
        Cranes.addTo(x, 3, 3);
        Cranes.store(x, 2, Cranes.PLUSH, 1);
        Cranes.addTo(x, 4, 2);
        Check.due("a ball of 3 slips", x.play(3, 0), 1);
        Check.due("to one heavy prize rather than to two light ones", x.at(2, 1), 3);
    }

    private static void prizeComes() {
        Check.sentence("Promise 3", "A prize comes, into the store");
        ClawCranes x = new ClawCranes();
        x.set(ClawCranes.LACK, 8);
        x.prize(Cranes.BOX, 7, 8);
        Check.due("the store", x.count(8), 1);
        Check.due("the pit", x.count(9), 0);
        Check.sentence("Promise 3", "Returns its number");
        for (int i = 1; i < 24; i++) {
            Check.due("prize " + i, x.prize(Cranes.BALL, 1, 1), i);
        }
        Check.due("the store", x.count(8), (1 << 24) - 1);
    }

    private static void prizeOf(int kind, int weight, int value, int due) {
        ClawCranes x = new ClawCranes();
        Check.due("prize(" + kind + ", " + weight + ", " + value + ")", x.prize(kind, weight, value), due);
        Check.due("it came or it didn't", x.count(8), due == 0 ? 1 : 0);
    }

    private static void prizeRanges() {
        Check.sentence("Promise 3", "BAD_VALUE if an argument is out of range");
        int[][] good = {{0, 1, 1}, {1, 30, 50}, {2, 60, 99}, {0, 60, 1}, {2, 1, 99}};
        for (int[] a : good) {
            prizeOf(a[0], a[1], a[2], 0);
        }
        Check.sentence("Promise 3", "`kind`: 0 to 2");
        for (int kind : new int[] {-1, 3, Integer.MIN_VALUE, Integer.MAX_VALUE}) {
            prizeOf(kind, 1, 1, ClawCranes.BAD_VALUE);
        }
        Check.sentence("Promise 3", "`weight`: 1 to 60");
        for (int weight : new int[] {0, -1, 61, Integer.MIN_VALUE, Integer.MAX_VALUE}) {
            prizeOf(0, weight, 1, ClawCranes.BAD_VALUE);
        }
        Check.sentence("Promise 3", "`value`: 1 to 99");
        for (int value : new int[] {0, -1, 100, Integer.MIN_VALUE, Integer.MAX_VALUE}) {
            prizeOf(0, 1, value, ClawCranes.BAD_VALUE);
        }
    }

    private static void prizeTooMany() {
        Check.sentence("Promise 3", "TOO_MANY if there have been 24");
        ClawCranes x = new ClawCranes();
        Cranes.store(x, 23, Cranes.BOX, 60);
        Check.due("after 23", x.prize(0, 1, 1), 23);
        Check.due("after 24", x.prize(0, 1, 1), ClawCranes.TOO_MANY);
        Check.due("there is no 25th one", x.of(24, 0), ClawCranes.NO_SUCH);
        x.undo();
        Check.due("after 23 again", x.prize(1, 1, 1), 23);
        Check.due("after 24 again", x.prize(1, 1, 1), ClawCranes.TOO_MANY);
    }

    private static void addNext() {
        Check.sentence("Promise 4", "Adds the next prize of the store to the top of a column", "Returns the prize");
        ClawCranes x = new ClawCranes();
        Cranes.store(x, 3, Cranes.PLUSH, 60);
        Check.due("add(7)", x.add(7), 0);
        Check.due("add(0)", x.add(0), 1);
        Check.due("add(7)", x.add(7), 2);
        Check.due("at(7, 0)", x.at(7, 0), 0);
        Check.due("at(7, 1)", x.at(7, 1), 2);
        Check.due("at(0, 0)", x.at(0, 0), 1);
        Check.due("the store", x.count(8), 0);
        Check.due("the book tells no adding", x.book(0, 0), ClawCranes.NO_SUCH);
        Check.due("adding is no filling", x.count(11), 0);
    }

    private static void addErrors() {
        Check.sentence("Promise 4", "NO_SUCH if there is no such column");
        ClawCranes x = new ClawCranes();
        Cranes.store(x, 5, Cranes.PLUSH, 1);
        for (int column : Cranes.NO_COLUMNS) {
            Check.due("add(" + column + ")", x.add(column), ClawCranes.NO_SUCH);
        }
        Check.sentence("Promise 4", "TOO_MANY if the column has 4");
        Cranes.addTo(x, 5, 3);
        Check.due("to 3", x.add(5), 3);
        Check.due("to 4", x.add(5), ClawCranes.TOO_MANY);
        Check.sentence("Promise 4", "NOT_POSSIBLE if the store is empty");
        Check.due("the last one", x.add(6), 4);
        Check.due("none is left", x.add(6), ClawCranes.NOT_POSSIBLE);
        x.prize(Cranes.PLUSH, 1, 1);
        Check.due("one came", x.add(6), 5);
        Check.due("a new object", new ClawCranes().add(0), ClawCranes.NOT_POSSIBLE);
    }

    private static void coinsIn() {
        Check.sentence("Promise 5", "Coins are put in", "Returns the credit then");
        ClawCranes x = new ClawCranes();
        Check.due("coins(7)", x.coins(7), 7);
        Check.due("coins(50)", x.coins(50), 57);
        Check.due("the credit", x.count(0), 57);
        Check.due("nothing is paid for a play yet", x.count(1) + x.count(2), 0);
        x.play(0, 0);
        Check.due("what is left, and 1", x.coins(1), 56);
    }

    private static void coinsRange() {
        Check.sentence("Promise 5", "`many`: 1 to 99");
        ClawCranes x = new ClawCranes();
        Check.due("coins(1)", x.coins(1), 1);
        Check.due("coins(99)", x.coins(99), 100);
        Check.sentence("Promise 5", "BAD_VALUE if many is out of range");
        for (int many : new int[] {0, -1, 100, Integer.MIN_VALUE, Integer.MAX_VALUE}) {
            Check.due("coins(" + many + ")", x.coins(many), ClawCranes.BAD_VALUE);
        }
        Check.due("the credit", x.count(0), 100);
    }

    private static void coinsTooMany() {
        Check.sentence("Promise 5", "TOO_MANY if it would be above 999");
        ClawCranes x = Cranes.withCredit(900);
        Check.due("900 and 99 are 999", x.coins(99), 999);
        Check.due("999 and 1", x.coins(1), ClawCranes.TOO_MANY);
        Check.due("999 and 99", x.coins(99), ClawCranes.TOO_MANY);
        Check.due("the credit", x.count(0), 999);
        x.play(0, 0);
        Check.due("997 and 3", x.coins(3), ClawCranes.TOO_MANY);
        Check.due("997 and 2", x.coins(2), 999);
        x = Cranes.withCredit(901);
        Check.due("901 and 99", x.coins(99), ClawCranes.TOO_MANY);
        Check.due("901 and 98", x.coins(98), 999);
    }
}
