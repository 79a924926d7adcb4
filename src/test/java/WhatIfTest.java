/** Promises 13 to 17: ifPlayed, load, untilFull, bestColumn, costs. */
public final class WhatIfTest {
    public static void main(String[] args) {
        ifPlayed();
        ifPlayedWithoutCredit();
        ifPlayedErrors();
        load();
        loadErrors();
        untilFull();
        untilFullAfterPlays();
        bestColumn();
        bestOfSeveral();
        costs();
        costsWithoutCredit();
        costsNever();
        costsOfBalls();
        costsWithFilling();
        costsErrors();
        Check.end();
    }

    private static void ifPlayed() {
        Check.sentence("Promise 13", "Returns 0 nothing would be gripped, 1 it would slip and fall back, "
                + "2 it would roll, 10 and the prize if it would be won");
        ClawCranes x = Cranes.withColumns(Cranes.BALL, 40, 0, 0, 0, 2);
        x.prize(Cranes.PLUSH, 9, 1);
        x.add(6);
        Check.due("empty", x.ifPlayed(0, 0), 0);
        Check.due("a ball rolls", x.ifPlayed(3, 0), 2);
        Check.due("won", x.ifPlayed(6, 0), 12);
        Check.due("won beside it", x.ifPlayed(6, 1), 12);
        Check.due("slips beside it", x.ifPlayed(6, 2), 1);
        x.set(ClawCranes.DUE, 2);
        Check.due("full with the next coins", x.ifPlayed(3, 0), 11);
        Check.due("45 - 3 is less than 40 + 5", x.ifPlayed(3, 1), 2);
        x.set(ClawCranes.DUE, 3);
        Check.due("not yet full", x.ifPlayed(3, 0), 2);
        Check.due("a ball that stays", Cranes.withColumns(Cranes.BALL, 13, 1).ifPlayed(0, 0), 1);
        x = Cranes.withColumns(Cranes.PLUSH, 12, 4, 4, 4, 4, 4, 4);
        Check.due("prize 3", x.ifPlayed(0, 0), 13);
        Check.due("prize 23", x.ifPlayed(5, 0), 33);
    }

    private static void ifPlayedWithoutCredit() {
        Check.sentence("Promise 13", "Tells what a play would do now, if there was credit enough");
        ClawCranes x = new ClawCranes();
        x.prize(Cranes.PLUSH, 12, 1);
        x.add(0);
        Check.due("no credit", x.ifPlayed(0, 0), 10);
        x.coins(1);
        Check.due("1 less than COIN", x.ifPlayed(0, 0), 10);
        x.set(ClawCranes.COIN, 9);
        x.set(ClawCranes.DUE, 9);
        x.set(ClawCranes.FULL, 11);
        Check.due("the coins that are not there count", x.ifPlayed(0, 0), 1);
    }

    private static void ifPlayedErrors() {
        Check.sentence("Promise 13", "NO_SUCH if there is no such column");
        ClawCranes x = new ClawCranes();
        for (int column : Cranes.NO_COLUMNS) {
            Check.due("ifPlayed(" + column + ", 0)", x.ifPlayed(column, 0), ClawCranes.NO_SUCH);
        }
        Check.sentence("Promise 13", "BAD_VALUE if aim is out of range");
        for (int aim : Cranes.NO_AIMS) {
            Check.due("ifPlayed(0, " + aim + ")", x.ifPlayed(0, aim), ClawCranes.BAD_VALUE);
        }
        Check.sentence("Promise 13", "`aim`: 0 to 4");
        Check.due("ifPlayed(0, 0)", x.ifPlayed(0, 0), 0);
        Check.due("ifPlayed(7, 4)", x.ifPlayed(7, 4), 0);
    }

    private static void load() {
        Check.sentence("Promise 14", "Returns the load of the top prize of a column");
        ClawCranes x = new ClawCranes();
        int[][] prizes = {{2, 20}, {2, 20}, {2, 60}, {2, 60}, {1, 30}, {0, 31}};
        for (int[] prize : prizes) {
            x.prize(prize[0], prize[1], 1);
        }
        int[] loads = {20, 22, 64, 66};
        for (int load : loads) {
            x.add(1);
            Check.due("a box", x.load(1, 0), load);
            Check.due("a box with an aim", x.load(1, 4), load);
        }
        x.add(0);
        Check.due("a ball", x.load(0, 0), 30);
        Check.due("a ball beside it", x.load(0, 1), 35);
        Check.due("a ball far beside it", x.load(0, 4), 35);
        x.add(0);
        Check.due("plush on a ball", x.load(0, 0), 31);
        Check.due("plush on a ball, far beside it", x.load(0, 4), 31);
    }

    private static void loadErrors() {
        Check.sentence("Promise 14", "NO_SUCH if there is no such column");
        ClawCranes x = Cranes.withColumns(Cranes.PLUSH, 60, 1);
        for (int column : Cranes.NO_COLUMNS) {
            Check.due("load(" + column + ", 0)", x.load(column, 0), ClawCranes.NO_SUCH);
        }
        Check.sentence("Promise 14", "BAD_VALUE if aim is out of range");
        for (int aim : Cranes.NO_AIMS) {
            Check.due("load(0, " + aim + ")", x.load(0, aim), ClawCranes.BAD_VALUE);
        }
        Check.sentence("Promise 14", "`aim`: 0 to 4");
        Check.due("load(0, 0)", x.load(0, 0), 60);
        Check.due("load(0, 4)", x.load(0, 4), 60);
        Check.sentence("Promise 14", "NONE if it is empty");
        Check.due("load(1, 0)", x.load(1, 0), ClawCranes.NONE);
        Check.due("load(7, 4)", x.load(7, 4), ClawCranes.NONE);
    }

    private static final String UNTIL_FULL = "Tells how many plays without a prize "
            + "the next play with a full grip is away: 0 if the next play has it";

    private static void untilFull() {
        Check.sentence("Promise 15", UNTIL_FULL, "Returns how many");
        Check.due("2 of 20 at first", new ClawCranes().untilFull(), 9);
        int[][] due = {{1, 1, 0}, {1, 2, 1}, {1, 200, 199}, {2, 2, 0}, {2, 3, 1}, {2, 4, 1}, {2, 5, 2}, {2, 21, 10},
            {3, 20, 6}, {3, 21, 6}, {3, 22, 7}, {9, 1, 0}, {9, 8, 0}, {9, 9, 0}, {9, 10, 1}, {9, 198, 21}, {9, 199, 22},
            {9, 200, 22}};
        for (int[] row : due) {
            ClawCranes x = new ClawCranes();
            x.set(ClawCranes.COIN, row[0]);
            x.set(ClawCranes.DUE, row[1]);
            Check.due(row[0] + " of " + row[1], x.untilFull(), row[2]);
        }
    }

    private static void untilFullAfterPlays() {
        Check.sentence("Promise 15", UNTIL_FULL);
        ClawCranes x = Cranes.withCredit(99);
        for (int plays = 0; plays < 12; plays++) {
            int away = x.untilFull();
            Check.due("after " + plays, away, Math.max(0, 9 - plays));
            x.play(0, 0);
            Check.due("the next play is full, or it is not", x.book(0, 3), away == 0 ? 1 : 0);
        }
        x.set(ClawCranes.DUE, 26);
        Check.due("24 paid, and 2", x.untilFull(), 0);
        x.set(ClawCranes.DUE, 27);
        Check.due("24 paid, and 4", x.untilFull(), 1);
        x.set(ClawCranes.DUE, 1);
        Check.due("more paid than due", x.untilFull(), 0);
        x.set(ClawCranes.DUE, 20);
        x.prize(Cranes.PLUSH, 45, 1);
        x.add(0);
        x.play(0, 0);
        Check.due("after a prize", x.untilFull(), 9);
    }

    private static final String BEST = "Finds the column at which a play with the aim 0 would win the prize "
            + "with the most value now, of several the lowest one";

    private static void bestColumn() {
        Check.sentence("Promise 16", "NONE if there is none");
        ClawCranes x = new ClawCranes();
        Check.due("an empty pit", x.bestColumn(), ClawCranes.NONE);
        x.prize(0, 13, 99);
        x.prize(0, 12, 50);
        x.prize(0, 1, 51);
        x.prize(0, 1, 1);
        x.add(1);
        Check.due("too heavy", x.bestColumn(), ClawCranes.NONE);
        Check.sentence("Promise 16", BEST);
        x.add(7);
        Check.due("as heavy as the grip", x.bestColumn(), 7);
        x.add(6);
        Check.due("of 1 more value", x.bestColumn(), 6);
        x.add(6);
        Check.due("another one lies on it", x.bestColumn(), 7);
        x.set(ClawCranes.DUE, 2);
        Check.due("the full grip", x.bestColumn(), 1);
        x = new ClawCranes();
        x.prize(Cranes.BALL, 12, 1);
        x.add(0);
        Check.due("column 0, of the least value", x.bestColumn(), 0);
        x = new ClawCranes();
        x.prize(Cranes.BALL, 12, 1);
        x.add(7);
        Check.due("a ball with the aim 0; column 7", x.bestColumn(), 7);
        x.set(ClawCranes.WEAK, 11);
        Check.due("it is too heavy", x.bestColumn(), ClawCranes.NONE);
    }

    /** "the lowest one" is read as the lowest number, as it is the only one of several then in every case. */
    private static void bestOfSeveral() {
        Check.sentence("Promise 16", BEST, "Returns the column");
        ClawCranes x = Cranes.withColumns(Cranes.PLUSH, 12, 0, 0, 1, 1, 0, 0, 0, 1);
        Check.due("of three as good", x.bestColumn(), 2);
        x.play(2, 0);
        Check.due("of two as good", x.bestColumn(), 3);
        x.play(3, 0);
        Check.due("the only one", x.bestColumn(), 7);
        x.play(7, 0);
        Check.due("none", x.bestColumn(), ClawCranes.NONE);
        x = Cranes.withColumns(Cranes.PLUSH, 12, 0, 0, 4, 0, 0, 1);
        Check.due("the lowest number, whatever lies beneath", x.bestColumn(), 2);
        x = Cranes.withColumns(Cranes.PLUSH, 12, 0, 0, 1, 0, 0, 4);
        Check.due("the lowest number, whatever lies beneath", x.bestColumn(), 2);
    }

    private static final String COSTS = "Tells how many coins it takes to win the prize "
            + "that is the top one of a column now, if all plays from now on are at that column, with the aim 0";

    private static void costs() {
        Check.sentence("Promise 17", COSTS, "Returns how many");
        ClawCranes x = Cranes.withColumns(Cranes.PLUSH, 45, 0, 1);
        x.prize(Cranes.PLUSH, 12, 1);
        x.add(0);
        Check.due("at once", x.costs(0), 2);
        Check.due("with the full grip", x.costs(1), 20);
        x.play(7, 0);
        Check.due("what was paid counts", x.costs(1), 18);
        x.set(ClawCranes.COIN, 9);
        Check.due("at once", x.costs(0), 9);
        Check.due("2 and 2 * 9 of 20", x.costs(1), 18);
        x.set(ClawCranes.DUE, 11);
        Check.due("2 and 9 of 11", x.costs(1), 9);
        x.set(ClawCranes.DUE, 12);
        Check.due("2 and 2 * 9 of 12", x.costs(1), 18);
        x.set(ClawCranes.COIN, 1);
        x.set(ClawCranes.DUE, 200);
        Check.due("198 plays more", x.costs(1), 198);
        x.set(ClawCranes.FULL, 44);
        Check.due("and then not", x.costs(1), ClawCranes.NONE);
    }

    private static void costsWithoutCredit() {
        Check.sentence("Promise 17", "(the credit does not matter; the pit is filled up as told)");
        ClawCranes x = new ClawCranes();
        x.prize(Cranes.PLUSH, 45, 1);
        x.add(0);
        Check.due("no credit", x.costs(0), 20);
        x.coins(1);
        Check.due("1 coin", x.costs(0), 20);
        Cranes.pay(x, 998);
        Check.due("999 coins", x.costs(0), 20);
    }

    private static void costsNever() {
        Check.sentence("Promise 17", "NONE if it is not won within 300 plays, or rolls away");
        ClawCranes x = Cranes.withColumns(Cranes.PLUSH, 46, 1);
        Check.due("1 more than FULL", x.costs(0), ClawCranes.NONE);
        x.set(ClawCranes.FULL, 46);
        Check.due("as much as FULL", x.costs(0), 20);
        x.set(ClawCranes.WEAK, 46);
        x.set(ClawCranes.FULL, 1);
        Check.due("as much as WEAK", x.costs(0), 2);
        x.set(ClawCranes.DUE, 2);
        Check.due("the next play is full, and less", x.costs(0), ClawCranes.NONE);
        x.set(ClawCranes.FULL, 46);
        x.set(ClawCranes.WEAK, 1);
        x.set(ClawCranes.COIN, 1);
        x.set(ClawCranes.DUE, 200);
        Check.due("the longest way: 200 plays", x.costs(0), 200);
    }

    private static void costsOfBalls() {
        Check.sentence("Promise 17", "NONE if it is not won within 300 plays, or rolls away");
        ClawCranes x = Cranes.withColumns(Cranes.BALL, 45, 0, 0, 0, 2, 0, 1);
        Check.due("it rolls away", x.costs(3), ClawCranes.NONE);
        x.set(ClawCranes.DUE, 3);
        Check.due("it rolls before the grip is full", x.costs(3), ClawCranes.NONE);
        x.set(ClawCranes.DUE, 2);
        Check.due("won before it rolls", x.costs(3), 2);
        x.set(ClawCranes.FULL, 44);
        Check.due("full, and it rolls all the same", x.costs(3), ClawCranes.NONE);
        x.set(ClawCranes.FULL, 45);
        x.set(ClawCranes.DUE, 20);
        Check.due("a ball that stays", x.costs(5), 20);
    }

    private static void costsWithFilling() {
        Check.sentence("Promise 17", "(the credit does not matter; the pit is filled up as told)");
        ClawCranes x = new ClawCranes();
        x.prize(Cranes.BOX, 45, 1);
        x.add(3);
        x.set(ClawCranes.LACK, 8);
        Cranes.store(x, 12, Cranes.BALL, 60);
        Check.due("the others come beside it", x.costs(3), 20);
        x.coins(4);
        x.play(3, 0);
        Check.due("no column is empty then", x.count(10), 0);
        Check.due("it lies as it lay", x.costs(3), 18);
        x.add(3);
        Check.due("a ball on it, no column lower by 2", x.costs(3), ClawCranes.NONE);
        x.set(ClawCranes.FULL, 60);
        Check.due("and it stays", x.costs(3), 18);
        x = Cranes.withColumns(Cranes.BALL, 40, 0, 0, 2);
        Cranes.store(x, 9, Cranes.PLUSH, 60);
        x.set(ClawCranes.LACK, 8);
        Check.due("it rolls before the pit is filled up", x.costs(2), ClawCranes.NONE);
    }

    private static void costsErrors() {
        Check.sentence("Promise 17", "NO_SUCH if there is no such column");
        ClawCranes x = Cranes.withColumns(Cranes.PLUSH, 12, 1);
        for (int column : Cranes.NO_COLUMNS) {
            Check.due("costs(" + column + ")", x.costs(column), ClawCranes.NO_SUCH);
        }
        Check.sentence("Promise 17", "NOT_POSSIBLE if it is empty");
        Check.due("costs(1)", x.costs(1), ClawCranes.NOT_POSSIBLE);
        Check.due("costs(7)", x.costs(7), ClawCranes.NOT_POSSIBLE);
        Check.due("costs(0)", x.costs(0), 2);
        x.play(0, 0);
        Check.due("its only prize was won", x.costs(0), ClawCranes.NOT_POSSIBLE);
    }
}
