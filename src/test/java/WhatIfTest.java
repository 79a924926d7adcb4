/** Promises 13 to 17: ifPlayed, load, untilFull, bestColumn, costs. */
public final class WhatIfTest {
    public static void main(String[] args) {
        ifPlayed();
        load();
        untilFull();
        bestColumn();
        costsErrors();
        costs();
        costsWithFilling();
        costsOfBalls();
        nothingChanges();
        Check.end();
    }

    private static void ifPlayed() {
        ClawCranes x = new ClawCranes();
        x.prize(0, 40, 1);
        x.prize(1, 40, 1);
        x.prize(0, 9, 1);
        x.add(3);
        x.add(3);
        x.add(6);
        Check.due("empty", x.ifPlayed(0, 0), 0);
        Check.due("a ball rolls", x.ifPlayed(3, 0), 2);
        Check.due("won without credit", x.ifPlayed(6, 0), 12);
        Check.due("won beside it", x.ifPlayed(6, 1), 12);
        Check.due("slips beside it", x.ifPlayed(6, 2), 1);
        x.set(ClawCranes.DUE, 2);
        Check.due("full with the next coins", x.ifPlayed(3, 0), 11);
        Check.due("45 - 3 < 40 + 5", x.ifPlayed(3, 1), 2);
        x.set(ClawCranes.DUE, 3);
        Check.due("not yet full", x.ifPlayed(3, 0), 2);
        Check.due("ifPlayed(-1, 5)", x.ifPlayed(-1, 5), ClawCranes.NO_SUCH);
        Check.due("ifPlayed(8, 0)", x.ifPlayed(8, 0), ClawCranes.NO_SUCH);
        Check.due("ifPlayed(0, 5)", x.ifPlayed(0, 5), ClawCranes.BAD_VALUE);
        Check.due("ifPlayed(0, -1)", x.ifPlayed(0, -1), ClawCranes.BAD_VALUE);
        Check.due("ifPlayed(7, 4)", x.ifPlayed(7, 4), 0);
    }

    private static void load() {
        ClawCranes x = new ClawCranes();
        x.prize(2, 20, 1);
        x.prize(2, 20, 1);
        x.prize(2, 60, 1);
        x.prize(2, 60, 1);
        x.prize(1, 30, 1);
        x.prize(0, 31, 1);
        x.add(1);
        Check.due("a box alone", x.load(1, 0), 20);
        x.add(1);
        Check.due("a box on one", x.load(1, 3), 22);
        x.add(1);
        x.add(1);
        Check.due("a box on three", x.load(1, 4), 66);
        x.add(0);
        Check.due("a ball", x.load(0, 0), 30);
        Check.due("a ball beside it", x.load(0, 1), 35);
        Check.due("a ball far beside it", x.load(0, 4), 35);
        x.add(0);
        Check.due("plush on a ball", x.load(0, 4), 31);
        Check.due("empty", x.load(7, 0), ClawCranes.NONE);
        Check.due("empty, bad aim", x.load(7, 5), ClawCranes.BAD_VALUE);
        Check.due("load(-1, 9)", x.load(-1, 9), ClawCranes.NO_SUCH);
        Check.due("load(8, 0)", x.load(8, 0), ClawCranes.NO_SUCH);
        Check.due("load(1, -1)", x.load(1, -1), ClawCranes.BAD_VALUE);
    }

    private static void untilFull() {
        ClawCranes x = new ClawCranes();
        Check.due("20 of 2", x.untilFull(), 9);
        x.set(ClawCranes.COIN, 3);
        Check.due("20 of 3", x.untilFull(), 6);
        x.set(ClawCranes.DUE, 21);
        Check.due("21 of 3", x.untilFull(), 6);
        x.set(ClawCranes.DUE, 22);
        Check.due("22 of 3", x.untilFull(), 7);
        x.coins(99);
        x.play(0, 0);
        Check.due("22 of 3, 3 paid", x.untilFull(), 6);
        x.set(ClawCranes.COIN, 1);
        x.set(ClawCranes.DUE, 200);
        Check.due("200 of 1, 3 paid", x.untilFull(), 196);
        x.set(ClawCranes.DUE, 4);
        Check.due("4 of 1, 3 paid", x.untilFull(), 0);
        x.set(ClawCranes.DUE, 1);
        Check.due("more than due", x.untilFull(), 0);
        x = new ClawCranes();
        x.set(ClawCranes.COIN, 9);
        x.set(ClawCranes.DUE, 1);
        Check.due("1 of 9", x.untilFull(), 0);
        x.set(ClawCranes.DUE, 9);
        Check.due("9 of 9", x.untilFull(), 0);
        x.set(ClawCranes.DUE, 10);
        Check.due("10 of 9", x.untilFull(), 1);
    }

    private static void bestColumn() {
        ClawCranes x = new ClawCranes();
        Check.due("empty", x.bestColumn(), ClawCranes.NONE);
        int[][] prizes = {{13, 99}, {12, 50}, {5, 60}, {5, 60}, {5, 1}, {44, 70}};
        for (int[] prize : prizes) {
            x.prize(0, prize[0], prize[1]);
        }
        x.add(1);
        Check.due("too heavy", x.bestColumn(), ClawCranes.NONE);
        x.add(7);
        Check.due("as much as the grip", x.bestColumn(), 7);
        x.add(6);
        Check.due("of more value", x.bestColumn(), 6);
        x.add(3);
        Check.due("as much value: the lower one", x.bestColumn(), 3);
        x.add(3);
        Check.due("covered", x.bestColumn(), 6);
        x.add(0);
        Check.due("still weak", x.bestColumn(), 6);
        x.set(ClawCranes.DUE, 1);
        Check.due("the full grip", x.bestColumn(), 1);
        x = new ClawCranes();
        x.prize(1, 12, 1);
        x.add(0);
        Check.due("column 0, of the least value", x.bestColumn(), 0);
    }

    private static void costsErrors() {
        ClawCranes x = new ClawCranes();
        Check.due("costs(-1)", x.costs(-1), ClawCranes.NO_SUCH);
        Check.due("costs(8)", x.costs(8), ClawCranes.NO_SUCH);
        Check.due("costs(0)", x.costs(0), ClawCranes.NOT_POSSIBLE);
        x.prize(0, 46, 1);
        x.add(0);
        Check.due("never", x.costs(0), ClawCranes.NONE);
    }

    private static void costs() {
        ClawCranes x = new ClawCranes();
        x.prize(0, 12, 1);
        x.prize(0, 45, 1);
        x.prize(0, 1, 1);
        x.add(0);
        x.add(1);
        x.add(1);
        Check.due("at once", x.costs(0), 2);
        Check.due("the top one alone", x.costs(1), 2);
        x.coins(6);
        x.play(1, 0);
        Check.due("with the full grip", x.costs(1), 20);
        x.play(1, 0);
        Check.due("what was paid counts", x.costs(1), 18);
        x.set(ClawCranes.DUE, 200);
        x.set(ClawCranes.COIN, 1);
        Check.due("198 plays more", x.costs(1), 198);
    }

    private static void costsWithFilling() {
        ClawCranes x = new ClawCranes();
        x.prize(2, 45, 1);
        x.add(3);
        x.set(ClawCranes.LACK, 8);
        for (int i = 0; i < 12; i++) {
            x.prize(1, 60, 1);
        }
        Check.due("the others come beside it", x.costs(3), 20);
        x.coins(4);
        x.play(3, 0);
        Check.due("filled up", x.count(10), 0);
        Check.due("it lies as it lay", x.costs(3), 18);
        x.add(3);
        Check.due("a ball on it, no column lower by 2", x.costs(3), ClawCranes.NONE);
        x.set(ClawCranes.FULL, 60);
        Check.due("and it stays", x.costs(3), 18);
        x.set(ClawCranes.DUE, 4);
        Check.due("the next play is full", x.costs(3), 2);
        x.set(ClawCranes.FULL, 59);
        Check.due("full, and still not enough", x.costs(3), ClawCranes.NONE);
        x.set(ClawCranes.WEAK, 60);
        x.set(ClawCranes.DUE, 5);
        Check.due("weak is enough", x.costs(3), 2);
    }

    private static void costsOfBalls() {
        ClawCranes x = new ClawCranes();
        x.set(ClawCranes.LACK, 0);
        x.prize(0, 1, 1);
        x.prize(1, 45, 1);
        x.add(3);
        x.add(3);
        Check.due("it rolls away", x.costs(3), ClawCranes.NONE);
        x.set(ClawCranes.DUE, 2);
        Check.due("won before it rolls", x.costs(3), 2);
        x.set(ClawCranes.DUE, 20);
        x.prize(1, 45, 1);
        x.add(6);
        Check.due("a ball that stays", x.costs(6), 20);
    }

    private static void nothingChanges() {
        ClawCranes x = new ClawCranes();
        for (int i = 0; i < 6; i++) {
            x.prize(i % 3, 20 + i, 5);
        }
        x.add(3);
        x.add(3);
        x.set(ClawCranes.LACK, 4);
        x.untilFull();
        x.bestColumn();
        x.costs(3);
        x.ifPlayed(3, 2);
        x.load(3, 2);
        Check.due("changes", x.count(19), 6);
        Check.due("pit", x.count(9), 3);
        Check.due("paid", x.count(2), 0);
        Check.due("gripped", x.of(1, 5), 0);
        Check.due("book", x.book(0, 0), ClawCranes.NO_SUCH);
        Check.due("place", x.of(1, 4), 31);
    }
}
