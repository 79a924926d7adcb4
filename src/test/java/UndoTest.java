import java.util.function.Consumer;

/** Promises 22 to 24: undo, save, restore; and of each promise that it is a change. */
public final class UndoTest {
    private static final String UNDOES = "Undoes the latest change: "
            + "everything except the pad, the slots and the history is as it was before it";
    private static final String RECORDS = "each method that is a change, and returns no error, "
            + "records the state before it (also if nothing is different then)";

    public static void main(String[] args) {
        changes();
        carryOutIsOneChange();
        carryOutOfNoneIsAChange();
        undoesEachChange();
        undoesRollingAndFilling();
        undoesOtherPrizes();
        padAndSlotsStay();
        sixStates();
        recordsAlthoughNothingIsDifferent();
        othersRecordNothing();
        oldestIsDropped();
        oneMoreAfterUndo();
        undoTellsHowManyAreLeft();
        nothingToUndo();
        saves();
        overwrites();
        slotsOfSave();
        restores();
        restoresTheLatest();
        slotsOfRestore();
        Check.end();
    }

    private static void isAChange(Consumer<ClawCranes> change) {
        String before = Traces.now(Cranes.live());
        ClawCranes x = Cranes.live();
        Check.due("before it", x.count(19), 5);
        change.accept(x);
        Check.due("it is recorded, once", x.count(19), 6);
        Check.holds("something is different", !before.equals(Traces.now(x)));
        x.undo();
        Check.holds("it is undone", before.equals(Traces.now(x)));
    }

    private static void changes() {
        Check.sentence("Promise 2", "This is a change");
        isAChange(x -> x.set(ClawCranes.COIN, 3));
        Check.sentence("Promise 3", "This is a change");
        isAChange(x -> x.prize(Cranes.BOX, 1, 2));
        Check.sentence("Promise 4", "This is a change");
        isAChange(x -> x.add(7));
        Check.sentence("Promise 5", "This is a change");
        isAChange(x -> x.coins(1));
        Check.sentence("Promise 6", "This is a change");
        isAChange(x -> x.play(7, 0));
        Check.sentence("Promise 24", "This is a change");
        isAChange(x -> x.restore(0));
    }

    private static void carryOutIsOneChange() {
        Check.sentence("Promise 21", "This is a change (one, with all of them; also if none is carried out)");
        isAChange(ClawCranes::carryOut);
        Check.sentence("Promise 22", "An order of a text records nothing by itself");
        ClawCranes x = Cranes.withCredit(3);
        Cranes.type(x, "c1;c2;np1=1;nb1=1;a0;a1;p0;p1/4;c0");
        Check.due("orders", x.carryOut(), 8);
        Check.due("one change more", x.count(19), 2);
        Check.due("undo()", x.undo(), 1);
        Check.due("all of them are undone", x.count(0), 3);
        Check.due("no prize is left", x.of(0, 0), ClawCranes.NO_SUCH);
        Check.due("undo()", x.undo(), 0);
        Check.due("the one before them", x.count(0), 0);
    }

    private static void carryOutOfNoneIsAChange() {
        Check.sentence("Promise 21", "This is a change (one, with all of them; also if none is carried out)");
        ClawCranes x = Cranes.withCredit(3);
        Cranes.type(x, "c0;c1");
        Check.due("none is carried out", x.carryOut(), 0);
        Check.due("a change all the same", x.count(19), 2);
        Check.due("undo()", x.undo(), 1);
        Check.due("the credit is as before it", x.count(0), 3);
        Check.due("a text with a fault", x.carryOut(), ClawCranes.BAD_TEXT);
        Check.due("is no change", x.count(19), 1);
    }

    /** A change and its undo leave all as it was, with what can be undone from there and what the slots hold. */
    private static void undoes(String what, Consumer<ClawCranes> change) {
        Consumer<ClawCranes> live = x -> {
            Cranes.live(x);
            x.wipe();
        };
        Traces.alike(what, live, x -> {
            live.accept(x);
            int before = x.count(19);
            change.accept(x);
            Check.due("a change", x.count(19), before + 1);
            Check.due("undo()", x.undo(), before);
        });
    }

    private static void undoesEachChange() {
        Check.sentence("Promise 22", UNDOES);
        for (int setting = 0; setting < 6; setting++) {
            int number = setting;
            undoes("set", x -> x.set(number, 8));
        }
        undoes("prize", x -> x.prize(Cranes.BOX, 60, 99));
        undoes("add", x -> x.add(5));
        undoes("coins", x -> x.coins(99));
        undoes("a play that grips nothing", x -> x.play(7, 0));
        undoes("a play that slips", x -> x.play(2, 0));
        undoes("a play that wins", x -> x.play(1, 0));
        undoes("restore", x -> x.restore(0));
        undoes("carryOut", x -> {
            Cranes.type(x, "nx1=1;a5;c9;p4;p5/1;p1");
            x.carryOut();
        });
        undoes("carryOut of none", x -> {
            Cranes.type(x, "a9");
            x.carryOut();
        });
    }

    private static void undoesRollingAndFilling() {
        Check.sentence("Promise 22", UNDOES);
        ClawCranes x = Cranes.withColumns(Cranes.BALL, 60, 0, 0, 0, 0, 0, 0, 0, 2);
        Cranes.store(x, 3, Cranes.BOX, 1);
        x.set(ClawCranes.LACK, 4);
        String before = Traces.now(x);
        x.play(7, 0);
        Check.due("the ball rolled", x.of(1, 4), 60);
        Check.due("two came", x.book(0, 2), 2);
        x.undo();
        Check.due("the ball is on its place", x.of(1, 4), 71);
        Check.due("the two are in the store", x.count(8), 4 + 8 + 16);
        Check.due("no row of the book is left", x.book(0, 0), ClawCranes.NO_SUCH);
        Check.holds("all is as before", before.equals(Traces.now(x)));
        Check.due("the store gives the same one first", x.add(0), 2);
    }

    /** Prizes that come after an undo, or after a restore, leave no trace in what is undone to later. */
    private static void undoesOtherPrizes() {
        Check.sentence("Promise 22", UNDOES);
        ClawCranes x = Cranes.withCredit(9);
        x.save(0);
        x.prize(Cranes.PLUSH, 11, 21);
        x.add(7);
        x.play(7, 1);
        String before = Traces.now(x);
        x.restore(0);
        x.prize(Cranes.BALL, 50, 99);
        x.prize(Cranes.BOX, 51, 98);
        x.add(6);
        x.add(7);
        x.play(5, 4);
        Cranes.undoAll(x);
        Check.holds("as it was before restore()", before.equals(Traces.now(x)));
        Check.due("the prize", x.of(0, 0), Cranes.PLUSH);
        Check.due("its weight", x.of(0, 1), 11);
        Check.due("its value", x.of(0, 2), 21);
        Check.due("its place", x.of(0, 4), 70);
        Check.due("it lies there", x.at(7, 0), 0);
        Check.due("the column of the play", x.book(0, 1), 7);
    }

    private static void padAndSlotsStay() {
        Check.sentence("Promise 22", UNDOES);
        ClawCranes x = Cranes.withPad("c1");
        x.coins(5);
        x.save(0);
        Cranes.type(x, ";p");
        Check.due("undo()", x.undo(), 0);
        Check.due("the pad is as it is", x.count(18), 4);
        x.wipe();
        Check.due("nothing more can be undone", x.undo(), ClawCranes.NOT_POSSIBLE);
        Check.due("the slot stays", x.restore(0), 0);
        Check.due("with its credit", x.count(0), 5);
        Cranes.type(x, "c1");
        x.carryOut();
        x.undo();
        Check.due("the text that was carried out does not come back", x.count(18), 0);
    }

    private static void sixStates() {
        Check.sentence("Promise 22", "A history of at most 6 states is kept");
        for (int many = 1; many <= 15; many++) {
            ClawCranes x = new ClawCranes();
            for (int i = 0; i < many; i++) {
                x.coins(1);
            }
            int kept = Math.min(many, 6);
            Check.due("after " + many, x.count(19), kept);
            for (int left = kept - 1; left >= 0; left--) {
                Check.due("undo()", x.undo(), left);
                Check.due("the credit", x.count(0), many - kept + left);
            }
            Check.due("no more", x.undo(), ClawCranes.NOT_POSSIBLE);
            Check.due("the credit", x.count(0), many - kept);
        }
    }

    private static void recordsAlthoughNothingIsDifferent() {
        Check.sentence("Promise 22", RECORDS);
        ClawCranes x = new ClawCranes();
        x.set(ClawCranes.DUE, 20);
        Check.due("a setting that was so", x.count(19), 1);
        x.save(1);
        x.restore(1);
        Check.due("a state that was so", x.count(19), 2);
        Cranes.type(x, "a0");
        x.carryOut();
        Check.due("no order carried out", x.count(19), 3);
        for (int left = 2; left >= 0; left--) {
            Check.due("undo()", x.undo(), left);
        }
    }

    private static void othersRecordNothing() {
        Check.sentence("Promise 22", RECORDS);
        ClawCranes x = Cranes.withCredit(9);
        x.save(0);
        x.put('c');
        x.fault();
        x.wipe();
        x.at(0, 0);
        x.of(0, 0);
        x.book(0, 0);
        x.byValue(0);
        x.lighter(9);
        x.ifPlayed(0, 0);
        x.load(0, 0);
        x.untilFull();
        x.bestColumn();
        x.costs(0);
        Check.due("none of these", x.count(19), 1);
        x.set(0, 99);
        x.prize(9, 9, 9);
        x.add(0);
        x.coins(0);
        x.play(9, 0);
        x.restore(1);
        x.restore(5);
        x.carryOut();
        x.save(7);
        Check.due("no error", x.count(19), 1);
        Check.due("undo()", x.undo(), 0);
        Check.due("undo records nothing", x.count(19), 0);
    }

    private static void oldestIsDropped() {
        Check.sentence("Promise 22", "when one more is recorded, the oldest one is dropped");
        ClawCranes x = Cranes.withCredit(50);
        x.set(ClawCranes.COIN, 9);
        x.set(ClawCranes.SLIP, 9);
        x.set(ClawCranes.LACK, 8);
        x.prize(0, 1, 1);
        x.add(0);
        Check.due("six changes", x.count(19), 6);
        x.prize(0, 2, 2);
        Check.due("still six", x.count(19), 6);
        Cranes.undoAll(x);
        Check.due("the first one cannot be undone any more", x.count(0), 50);
        Check.due("the second one is", x.count(12), 2);
    }

    private static void oneMoreAfterUndo() {
        Check.sentence("Promise 22", "when one more is recorded, the oldest one is dropped");
        ClawCranes x = new ClawCranes();
        for (int i = 0; i < 9; i++) {
            x.coins(1);
        }
        x.undo();
        x.undo();
        x.coins(10);
        Check.due("none was dropped: 4 and 1", x.count(19), 5);
        x.coins(20);
        Check.due("4 and 2", x.count(19), 6);
        x.coins(30);
        Check.due("now one was", x.count(19), 6);
        int[] credits = {37, 17, 7, 6, 5, 4};
        for (int credit : credits) {
            x.undo();
            Check.due("the credit", x.count(0), credit);
        }
        Check.due("no more", x.undo(), ClawCranes.NOT_POSSIBLE);
    }

    private static void undoTellsHowManyAreLeft() {
        Check.sentence("Promise 22", "Returns how many changes can be undone then");
        ClawCranes x = new ClawCranes();
        for (int i = 0; i < 6; i++) {
            x.coins(1);
        }
        for (int left = 5; left >= 0; left--) {
            Check.due("undo()", x.undo(), left);
            Check.due("count(19)", x.count(19), left);
        }
    }

    private static void nothingToUndo() {
        Check.sentence("Promise 22", "NOT_POSSIBLE if there is none");
        ClawCranes x = new ClawCranes();
        Check.due("a new object", x.undo(), ClawCranes.NOT_POSSIBLE);
        x.coins(1);
        Check.due("one change", x.undo(), 0);
        Check.due("it was undone", x.undo(), ClawCranes.NOT_POSSIBLE);
        x.coins(2);
        Check.due("one change again", x.undo(), 0);
        Check.due("the credit", x.count(0), 0);
    }

    private static final String SAVES = "Saves everything except the pad, the history and the slots in a slot, "
            + "and overwrites what was saved there";

    private static void saves() {
        Check.sentence("Promise 23", SAVES, "Returns how many prizes there have been");
        Check.due("a new object", new ClawCranes().save(0), 0);
        ClawCranes x = Cranes.live();
        String saved = Traces.now(x);
        Check.due("of 8 prizes some were won", x.save(1), 8);
        x.play(1, 0);
        x.prize(0, 60, 60);
        x.set(ClawCranes.WEAK, 60);
        x.play(0, 0);
        Cranes.type(x, "~");
        int pad = x.count(18);
        Check.due("restore(1)", x.restore(1), 8);
        Check.holds("all as it was saved", saved.equals(Traces.now(x)));
        Check.due("but the pad", x.count(18), pad);
        Check.due("but the history", x.count(19), 6);
    }

    private static void overwrites() {
        Check.sentence("Promise 23", SAVES);
        ClawCranes x = Cranes.withCredit(1);
        x.save(0);
        x.coins(1);
        x.save(1);
        x.coins(1);
        x.save(0);
        x.coins(1);
        x.restore(1);
        Check.due("slot 1", x.count(0), 2);
        x.restore(0);
        Check.due("slot 0, overwritten", x.count(0), 3);
    }

    private static void slotsOfSave() {
        Check.sentence("Promise 23", "`slot`: 0 or 1");
        ClawCranes x = Cranes.withCredit(1);
        Cranes.store(x, 24, Cranes.PLUSH, 1);
        Check.due("save(0)", x.save(0), 24);
        Check.due("save(1)", x.save(1), 24);
        Check.sentence("Promise 23", "BAD_VALUE if there is no such slot");
        for (int slot : new int[] {-1, 2, Integer.MIN_VALUE, Integer.MAX_VALUE}) {
            Check.due("save(" + slot + ")", x.save(slot), ClawCranes.BAD_VALUE);
        }
    }

    private static void restores() {
        Check.sentence("Promise 24", "Restores what was saved last in a slot, which keeps it");
        String saved = Traces.now(Cranes.live());
        for (int times = 1; times <= 3; times++) {
            ClawCranes x = Cranes.live();
            x.save(1);
            for (int i = 0; i < times; i++) {
                x.restore(0);
                x.coins(9);
                x.prize(0, 60, 1);
                x.play(0, 0);
                x.set(ClawCranes.FULL, 1);
                x.add(7);
                x.restore(1);
            }
            Check.holds("as it was saved, restored " + times + " times", saved.equals(Traces.now(x)));
        }
    }

    private static void restoresTheLatest() {
        Check.sentence("Promise 24", "Restores what was saved last in a slot, which keeps it",
                "Returns how many prizes there have been then");
        ClawCranes x = new ClawCranes();
        x.save(0);
        x.prize(0, 1, 1);
        x.save(1);
        x.prize(0, 2, 2);
        x.save(0);
        x.prize(0, 3, 3);
        Check.due("slot 1", x.restore(1), 1);
        Check.due("slot 0", x.restore(0), 2);
        Check.due("slot 1", x.restore(1), 1);
        Check.due("a prize gets the next number then", x.prize(1, 9, 9), 1);
        Check.due("slot 0", x.restore(0), 2);
        Check.due("with its own prize", x.of(1, 1), 2);
        Check.due("the store", x.count(8), 3);
    }

    private static void slotsOfRestore() {
        Check.sentence("Promise 24", "NOT_POSSIBLE if nothing was saved in it");
        ClawCranes x = Cranes.withCredit(1);
        Check.due("nothing in slot 0", x.restore(0), ClawCranes.NOT_POSSIBLE);
        Check.due("nothing in slot 1", x.restore(1), ClawCranes.NOT_POSSIBLE);
        x.save(1);
        Check.due("nothing in slot 0", x.restore(0), ClawCranes.NOT_POSSIBLE);
        Check.sentence("Promise 24", "`slot`: 0 or 1");
        Check.due("slot 1", x.restore(1), 0);
        x.save(0);
        Check.due("slot 0", x.restore(0), 0);
        Check.sentence("Promise 24", "BAD_VALUE if there is no such slot");
        for (int slot : new int[] {-1, 2, Integer.MIN_VALUE, Integer.MAX_VALUE}) {
            Check.due("restore(" + slot + ")", x.restore(slot), ClawCranes.BAD_VALUE);
        }
    }
}
