/** Promises 22 to 24: undo, save, restore. */
public final class UndoTest {
    public static void main(String[] args) {
        undo();
        undoBringsAllBack();
        undoOfEachChange();
        historyOfSix();
        errorsRecordNothing();
        equalStatesAreRecorded();
        save();
        restore();
        slotsAndPadStay();
        Check.end();
    }

    /** All answers about a crane but the pad and the history, as one number. */
    private static long everything(ClawCranes x) {
        long sum = 7;
        for (int prize = 0; prize < 4; prize++) {
            for (int what = 0; what < 6; what++) {
                sum = 31 * sum + x.of(prize, what);
            }
        }
        for (int column = 0; column < 8; column += 2) {
            sum = 31 * sum + x.at(column, 0);
        }
        for (int rank = 0; rank < 3; rank++) {
            for (int what = 0; what < 4; what++) {
                sum = 31 * sum + x.book(rank, what);
            }
        }
        for (int what = 0; what < 18; what++) {
            sum = 31 * sum + x.count(what);
        }
        return sum;
    }

    private static void undo() {
        ClawCranes x = new ClawCranes();
        Check.due("undo()", x.undo(), ClawCranes.NOT_POSSIBLE);
        x.coins(5);
        x.coins(6);
        Check.due("undo()", x.undo(), 1);
        Check.due("credit", x.count(0), 5);
        Check.due("count(19)", x.count(19), 1);
        Check.due("undo()", x.undo(), 0);
        Check.due("credit", x.count(0), 0);
        Check.due("undo()", x.undo(), ClawCranes.NOT_POSSIBLE);
        x.prize(0, 5, 5);
        x.add(0);
        x.coins(9);
        x.play(0, 2);
        x.undo();
        x.undo();
        x.undo();
        x.undo();
        Check.due("a prize comes anew", x.prize(1, 6, 6), 0);
        Check.due("its place", x.of(0, 3), 0);
        Check.due("its grips", x.of(0, 5), 0);
        Check.due("its kind", x.of(0, 0), 1);
    }

    private static ClawCranes played() {
        ClawCranes x = new ClawCranes();
        x.prize(0, 50, 3);
        x.prize(1, 40, 4);
        x.prize(2, 12, 5);
        x.prize(2, 30, 6);
        x.add(2);
        x.add(2);
        x.coins(50);
        x.play(2, 0);
        return x;
    }

    private static void undoBringsAllBack() {
        ClawCranes x = played();
        long before = everything(x);
        x.set(ClawCranes.LACK, 4);
        long set = everything(x);
        x.play(6, 0);
        long filled = everything(x);
        x.set(ClawCranes.DUE, 5);
        long due = everything(x);
        Check.due("a win", x.play(1, 0), 11);
        x.undo();
        Check.due("undone: a play", everything(x), due);
        x.undo();
        Check.due("undone: set", everything(x), filled);
        x.undo();
        Check.due("undone: a play with a filling", everything(x), set);
        x.undo();
        Check.due("undone: set", everything(x), before);
    }

    private static void undoOfEachChange() {
        ClawCranes x = played();
        x.prize(0, 9, 9);
        x.save(0);
        for (int change = 0; change < 7; change++) {
            x.coins(1);
            long before = everything(x);
            switch (change) {
                case 0: x.prize(1, 2, 3); break;
                case 1: x.add(6); break;
                case 2: x.coins(3); break;
                case 3: x.set(ClawCranes.SLIP, 9); break;
                case 4: x.play(2, 1); break;
                case 5: Check.type(x, "nx1=1;a4;c9;p4"); Check.due("carryOut()", x.carryOut(), 4); break;
                default: x.restore(0);
            }
            Check.holds("something changes, " + change, everything(x) != before);
            x.undo();
            Check.due("undone: change " + change, everything(x), before);
        }
        Check.due("the store is as before", x.add(0), 2);
    }

    private static void historyOfSix() {
        ClawCranes x = new ClawCranes();
        for (int i = 1; i <= 9; i++) {
            x.coins(1);
            Check.due("count(19)", x.count(19), Math.min(i, 6));
        }
        for (int i = 5; i >= 0; i--) {
            Check.due("undo()", x.undo(), i);
            Check.due("credit", x.count(0), 3 + i);
        }
        Check.due("undo()", x.undo(), ClawCranes.NOT_POSSIBLE);
        Check.due("credit", x.count(0), 3);
        for (int i = 1; i <= 8; i++) {
            x.coins(10);
        }
        x.undo();
        x.undo();
        x.coins(1);
        Check.due("credit", x.count(0), 64);
        Check.due("count(19)", x.count(19), 5);
        Check.due("undo()", x.undo(), 4);
        Check.due("credit", x.count(0), 63);
    }

    private static void errorsRecordNothing() {
        ClawCranes x = new ClawCranes();
        x.coins(1);
        x.set(0, 99);
        x.prize(9, 9, 9);
        x.add(0);
        x.coins(0);
        x.play(0, 0);
        x.restore(0);
        x.restore(5);
        x.carryOut();
        x.save(0);
        x.save(7);
        Check.due("count(19)", x.count(19), 1);
        Check.due("undo()", x.undo(), 0);
        Check.due("credit", x.count(0), 0);
    }

    private static void equalStatesAreRecorded() {
        ClawCranes x = new ClawCranes();
        x.set(ClawCranes.DUE, 20);
        x.set(ClawCranes.DUE, 20);
        x.save(1);
        x.restore(1);
        Check.due("count(19)", x.count(19), 3);
    }

    private static void save() {
        ClawCranes x = new ClawCranes();
        Check.due("save(-1)", x.save(-1), ClawCranes.BAD_VALUE);
        Check.due("save(2)", x.save(2), ClawCranes.BAD_VALUE);
        Check.due("save(0)", x.save(0), 0);
        x.prize(0, 1, 1);
        x.prize(0, 1, 1);
        Check.due("save(1)", x.save(1), 2);
        x.prize(0, 1, 1);
        Check.due("overwritten", x.save(0), 3);
        x.undo();
        x.undo();
        Check.due("restore(0)", x.restore(0), 3);
        Check.due("restore(1)", x.restore(1), 2);
        Check.due("no change of save", x.count(19), 3);
    }

    private static void restore() {
        ClawCranes x = played();
        Check.due("restore(-1)", x.restore(-1), ClawCranes.BAD_VALUE);
        Check.due("restore(2)", x.restore(2), ClawCranes.BAD_VALUE);
        Check.due("restore(0)", x.restore(0), ClawCranes.NOT_POSSIBLE);
        x.save(0);
        Check.due("the other slot", x.restore(1), ClawCranes.NOT_POSSIBLE);
        long saved = everything(x);
        x.set(ClawCranes.DUE, 5);
        x.play(1, 0);
        x.play(2, 0);
        x.prize(0, 2, 2);
        long later = everything(x);
        Check.due("restore(0)", x.restore(0), 4);
        Check.due("as saved", everything(x), saved);
        x.coins(7);
        Check.due("the slot keeps it", x.restore(0), 4);
        Check.due("as saved", everything(x), saved);
        Check.due("undo()", x.undo(), 5);
        Check.due("undo()", x.undo(), 4);
        Check.due("restoring is a change", x.undo(), 3);
        Check.due("as before it", everything(x), later);
    }

    private static void slotsAndPadStay() {
        ClawCranes x = new ClawCranes();
        Check.type(x, "c1");
        x.coins(5);
        x.save(0);
        x.wipe();
        Check.type(x, "p1;");
        x.undo();
        Check.due("undo leaves the pad", x.count(18), 3);
        Check.due("undo leaves the slots", x.restore(0), 0);
        Check.due("the slot's credit", x.count(0), 5);
        Check.due("restore leaves the pad", x.count(18), 3);
        Check.due("restore leaves the history", x.count(19), 1);
    }
}
