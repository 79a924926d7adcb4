/** Promises 7, 8, 10, 11 and 12: of, at, byValue, lighter, count. */
public final class WhatThereIsTest {
    public static void main(String[] args) {
        of();
        ofPlaceInThePit();
        ofGrips();
        ofErrors();
        at();
        atNone();
        byValue();
        byValueWithFewerAndMore();
        byValueErrors();
        lighter();
        lighterErrors();
        countOfPlays();
        countOfSets();
        countOfTheRest();
        countErrors();
        Check.end();
    }

    private static final String OF_WHAT = "`what`: 0 its kind, 1 its weight, 2 its value, 3 where it is, 0 to 2, "
            + "4 10 * its column and its height there, 0 for the lowest one (NONE if it is not in the pit), "
            + "5 how often it was gripped so far";

    private static void of() {
        Check.sentence("Promise 7", OF_WHAT, "Returns the number");
        ClawCranes x = new ClawCranes();
        x.prize(2, 60, 99);
        x.prize(1, 30, 1);
        x.prize(0, 1, 50);
        int[][] due = {{2, 60, 99}, {1, 30, 1}, {0, 1, 50}};
        for (int prize = 0; prize < 3; prize++) {
            for (int what = 0; what < 3; what++) {
                Check.due("of(" + prize + ", " + what + ")", x.of(prize, what), due[prize][what]);
            }
            Check.due("of(" + prize + ", 3)", x.of(prize, 3), 0);
            Check.due("of(" + prize + ", 5)", x.of(prize, 5), 0);
        }
    }

    private static void ofPlaceInThePit() {
        Check.sentence("Promise 7", OF_WHAT);
        ClawCranes x = Cranes.withColumns(Cranes.PLUSH, 12, 4, 0, 0, 0, 0, 0, 0, 4);
        for (int prize = 0; prize < 4; prize++) {
            Check.due("of(" + prize + ", 4)", x.of(prize, 4), prize);
            Check.due("of(" + (4 + prize) + ", 4)", x.of(4 + prize, 4), 70 + prize);
        }
        Cranes.store(x, 1, Cranes.PLUSH, 12);
        Check.due("in the store", x.of(8, 4), ClawCranes.NONE);
        x.play(7, 0);
        Check.due("won", x.of(7, 4), ClawCranes.NONE);
        Check.due("won", x.of(7, 3), 2);
        Check.due("in the pit", x.of(6, 3), 1);
    }

    private static void ofGrips() {
        Check.sentence("Promise 7", OF_WHAT);
        ClawCranes x = Cranes.withColumns(Cranes.PLUSH, 12, 1, 2);
        x.play(1, 1);
        x.play(1, 1);
        Check.due("slipped twice", x.of(2, 5), 2);
        x.play(1, 0);
        Check.due("slipped twice, and won", x.of(2, 5), 3);
        Check.due("the one beneath it", x.of(1, 5), 0);
        x = Cranes.withColumns(Cranes.BALL, 60, 0, 2);
        x.play(1, 0);
        Check.due("rolled", x.of(1, 5), 1);
        x.play(0, 0);
        Check.due("gripped in another column", x.of(1, 5), 2);
        x.ifPlayed(0, 0);
        x.costs(0);
        Check.due("a what-if grips nothing", x.of(1, 5), 2);
    }

    private static void ofErrors() {
        Check.sentence("Promise 7", "NO_SUCH if there is no such prize");
        ClawCranes x = new ClawCranes();
        Check.due("none came", x.of(0, 0), ClawCranes.NO_SUCH);
        Cranes.store(x, 23, Cranes.PLUSH, 1);
        Check.due("of(22, 1)", x.of(22, 1), 1);
        Check.due("of(23, 1)", x.of(23, 1), ClawCranes.NO_SUCH);
        Cranes.store(x, 1, Cranes.PLUSH, 1);
        Check.due("of(23, 1)", x.of(23, 1), 1);
        for (int prize : new int[] {-1, 24, Integer.MIN_VALUE, Integer.MAX_VALUE}) {
            Check.due("of(" + prize + ", 0)", x.of(prize, 0), ClawCranes.NO_SUCH);
        }
        Check.sentence("Promise 7", "BAD_VALUE if what is out of range");
        for (int what : new int[] {-1, 6, Integer.MIN_VALUE, Integer.MAX_VALUE}) {
            Check.due("of(0, " + what + ")", x.of(0, what), ClawCranes.BAD_VALUE);
        }
        x.undo();
        Check.due("one was undone", x.of(23, 1), ClawCranes.NO_SUCH);
    }

    private static void at() {
        Check.sentence("Promise 8", "Returns a prize of a column", "`height`: 0 for the lowest one",
                "Returns the prize");
        ClawCranes x = Cranes.withColumns(Cranes.PLUSH, 12, 4, 0, 0, 0, 0, 0, 0, 4);
        for (int height = 0; height < 4; height++) {
            Check.due("at(0, " + height + ")", x.at(0, height), height);
            Check.due("at(7, " + height + ")", x.at(7, height), 4 + height);
        }
        Check.sentence("Promise 8", "NO_SUCH if there is no such column");
        for (int column : Cranes.NO_COLUMNS) {
            Check.due("at(" + column + ", 0)", x.at(column, 0), ClawCranes.NO_SUCH);
        }
    }

    private static void atNone() {
        Check.sentence("Promise 8", "NONE if it has not so many, or height is below 0");
        ClawCranes x = Cranes.withColumns(Cranes.PLUSH, 12, 4, 1, 0, 2);
        for (int height : new int[] {-1, 4, 5, Integer.MIN_VALUE, Integer.MAX_VALUE}) {
            for (int column = 0; column < 8; column++) {
                Check.due("at(" + column + ", " + height + ")", x.at(column, height), ClawCranes.NONE);
            }
        }
        Check.due("the only one", x.at(1, 0), 4);
        Check.due("above the only one", x.at(1, 1), ClawCranes.NONE);
        Check.due("an empty column", x.at(2, 0), ClawCranes.NONE);
        Check.due("above two", x.at(3, 2), ClawCranes.NONE);
        x.play(3, 0);
        Check.due("where one was won", x.at(3, 1), ClawCranes.NONE);
    }

    private static final String BY_VALUE = "Returns a prize of the pit, by value: the most first, "
            + "of these by weight, the least first, of these by numbers";

    private static void byValue() {
        Check.sentence("Promise 10", BY_VALUE, "`rank`: 0 for the first one");
        ClawCranes x = new ClawCranes();
        int[][] prizes = {{30, 5}, {20, 9}, {10, 9}, {10, 9}, {1, 1}, {60, 99}, {60, 5}, {1, 98}};
        for (int[] prize : prizes) {
            x.prize(0, prize[0], prize[1]);
        }
        for (int i = 0; i < 8; i++) {
            x.add(7 - i);
        }
        int[] order = {5, 7, 2, 3, 1, 0, 6, 4};
        for (int rank = 0; rank < 8; rank++) {
            Check.due("byValue(" + rank + ")", x.byValue(rank), order[rank]);
        }
    }

    private static void byValueWithFewerAndMore() {
        Check.sentence("Promise 10", BY_VALUE, "Returns the prize");
        ClawCranes x = Cranes.withCredit(9);
        x.prize(0, 12, 50);
        x.prize(0, 12, 99);
        x.prize(0, 12, 20);
        x.set(ClawCranes.LACK, 0);
        Check.due("those of the store do not count", x.byValue(0), ClawCranes.NO_SUCH);
        x.add(3);
        Check.due("one in the pit", x.byValue(0), 0);
        Check.due("no other", x.byValue(1), ClawCranes.NO_SUCH);
        x.add(4);
        Check.due("of more value", x.byValue(0), 1);
        Check.due("of less", x.byValue(1), 0);
        x.play(4, 0);
        Check.due("without the one that was won", x.byValue(0), 0);
        Check.due("no other", x.byValue(1), ClawCranes.NO_SUCH);
    }

    private static void byValueErrors() {
        Check.sentence("Promise 10", "NO_SUCH if there are not so many");
        Check.due("an empty pit", new ClawCranes().byValue(0), ClawCranes.NO_SUCH);
        ClawCranes x = Cranes.withColumns(Cranes.PLUSH, 12, 4, 4, 4, 4, 4, 4);
        Check.due("byValue(0)", x.byValue(0), 0);
        Check.due("byValue(23)", x.byValue(23), 23);
        for (int rank : new int[] {-1, 24, 25, Integer.MIN_VALUE, Integer.MAX_VALUE}) {
            Check.due("byValue(" + rank + ")", x.byValue(rank), ClawCranes.NO_SUCH);
        }
        x.play(0, 0);
        Check.due("byValue(22)", x.byValue(22), 23);
        Check.due("byValue(23)", x.byValue(23), ClawCranes.NO_SUCH);
    }

    private static void lighter() {
        Check.sentence("Promise 11", "Returns how many prizes of the pit have a weight of some number, or less");
        ClawCranes x = Cranes.withCredit(9);
        x.prize(0, 1, 1);
        x.prize(1, 30, 1);
        x.prize(2, 30, 1);
        x.prize(2, 60, 1);
        x.prize(0, 1, 1);
        Check.due("those of the store do not count", x.lighter(60), 0);
        Cranes.addTo(x, 2, 4);
        int[][] due = {{0, 0}, {1, 1}, {2, 1}, {29, 1}, {30, 3}, {31, 3}, {59, 3}, {60, 4}, {61, 4}};
        for (int[] row : due) {
            Check.due("lighter(" + row[0] + ")", x.lighter(row[0]), row[1]);
        }
        x.add(5);
        Check.due("one more", x.lighter(1), 2);
        x.set(ClawCranes.LACK, 0);
        x.play(5, 0);
        Check.due("without the one that was won", x.lighter(1), 1);
        Check.due("24 of 24", Cranes.withColumns(Cranes.PLUSH, 60, 4, 4, 4, 4, 4, 4).lighter(60), 24);
    }

    private static void lighterErrors() {
        Check.sentence("Promise 11", "`weight`: 0 or more");
        ClawCranes x = Cranes.withColumns(Cranes.PLUSH, 1, 1);
        Check.due("lighter(0)", x.lighter(0), 0);
        Check.due("lighter(most)", x.lighter(Integer.MAX_VALUE), 1);
        Check.sentence("Promise 11", "BAD_VALUE if weight is below 0");
        Check.due("lighter(-1)", x.lighter(-1), ClawCranes.BAD_VALUE);
        Check.due("lighter(least)", x.lighter(Integer.MIN_VALUE), ClawCranes.BAD_VALUE);
    }

    private static void counts(ClawCranes x, int... due) {
        for (int i = 0; i < due.length; i += 2) {
            Check.due("count(" + due[i] + ")", x.count(due[i]), due[i + 1]);
        }
    }

    private static void countOfPlays() {
        Check.sentence("Promise 12", "0 the credit, 1 coins paid since the last prize, 2 coins paid so far, "
                + "3 plays so far, 4 those with a full grip, 5 prizes won, 6 slips so far, "
                + "7 the value of all that were won");
        ClawCranes x = Cranes.withCredit(50);
        x.prize(0, 13, 99);
        x.prize(1, 12, 98);
        x.prize(2, 14, 1);
        x.set(ClawCranes.LACK, 0);
        Cranes.addTo(x, 1, 2);
        x.play(5, 0);
        counts(x, 0, 48, 1, 2, 2, 2, 3, 1, 4, 0, 5, 0, 6, 0, 7, 0);
        x.play(1, 0);
        counts(x, 0, 46, 1, 0, 2, 4, 3, 2, 4, 0, 5, 1, 6, 0, 7, 98);
        x.play(1, 0);
        counts(x, 0, 44, 1, 2, 2, 6, 3, 3, 4, 0, 5, 1, 6, 1, 7, 98);
        x.set(ClawCranes.DUE, 4);
        x.play(5, 0);
        counts(x, 0, 42, 1, 4, 2, 8, 3, 4, 4, 1, 5, 1, 6, 1, 7, 98);
        x.play(1, 0);
        counts(x, 0, 40, 1, 0, 2, 10, 3, 5, 4, 2, 5, 2, 6, 1, 7, 197);
        x.set(ClawCranes.DUE, 5);
        counts(x, 3, 5, 4, 2, 11, 0);
        x = Cranes.withColumns(Cranes.BALL, 60, 2);
        x.play(0, 0);
        Check.due("a ball that rolls slips", x.count(6), 1);
    }

    private static void countOfSets() {
        Check.sentence("Promise 12",
                "8 prizes in the store, 9 in the pit, as sets, 10 columns that are empty, as a set");
        ClawCranes x = Cranes.withCredit(9);
        x.set(ClawCranes.LACK, 0);
        counts(x, 8, 0, 9, 0, 10, 255);
        Cranes.store(x, 24, Cranes.PLUSH, 12);
        counts(x, 8, (1 << 24) - 1, 9, 0, 10, 255);
        x.add(0);
        counts(x, 8, (1 << 24) - 2, 9, 1, 10, 254);
        x.add(7);
        counts(x, 8, (1 << 24) - 4, 9, 3, 10, 126);
        x.play(0, 0);
        counts(x, 8, (1 << 24) - 4, 9, 2, 10, 127);
        for (int i = 2; i < 24; i++) {
            x.add(i % 8);
        }
        counts(x, 8, 0, 9, (1 << 24) - 2, 10, 0);
        Check.sentence("Terms", "Sets of prizes and columns are bit masks");
        x = Cranes.withColumns(Cranes.PLUSH, 12, 0, 1, 0, 0, 0, 0, 1);
        Cranes.store(x, 3, Cranes.PLUSH, 12);
        counts(x, 8, 4 + 8 + 16, 9, 1 + 2, 10, 1 + 4 + 8 + 16 + 32 + 128);
    }

    private static void countOfTheRest() {
        Check.sentence("Promise 12", "11 fillings so far, 12 to 17 the settings, 18 the length of the pad, "
                + "19 how many changes can be undone", "Returns the number");
        ClawCranes x = Cranes.withCredit(9);
        Cranes.store(x, 3, Cranes.PLUSH, 12);
        x.play(0, 0);
        counts(x, 11, 1, 19, 5);
        x.play(0, 0);
        counts(x, 11, 2, 19, 6);
        x.play(0, 0);
        counts(x, 11, 2, 19, 6);
        x.undo();
        counts(x, 11, 2, 19, 5);
        int[] settings = {9, 200, 60, 99, 0, 8};
        for (int setting = 0; setting < 6; setting++) {
            x.set(setting, settings[setting]);
            counts(x, 12 + setting, settings[setting]);
        }
        counts(x, 12, 9, 13, 200, 14, 60, 15, 99, 16, 0, 17, 8, 18, 0, 19, 6);
        for (int i = 1; i <= 10; i++) {
            Cranes.type(x, "abcdefgh");
            counts(x, 18, 8 * i);
        }
        x.wipe();
        counts(x, 18, 0);
    }

    private static void countErrors() {
        Check.sentence("Promise 12", "BAD_VALUE if what is out of range");
        ClawCranes x = new ClawCranes();
        for (int what : new int[] {-1, 20, 21, Integer.MIN_VALUE, Integer.MAX_VALUE}) {
            Check.due("count(" + what + ")", x.count(what), ClawCranes.BAD_VALUE);
        }
        Check.due("count(0)", x.count(0), 0);
        Check.due("count(19)", x.count(19), 0);
    }
}
