/** Promises 7 to 12: of, at, book, byValue, lighter, count. */
public final class WhatThereIsTest {
    public static void main(String[] args) {
        of();
        at();
        book();
        bookOfTen();
        byValue();
        lighter();
        count();
        Check.end();
    }

    private static void of() {
        ClawCranes x = new ClawCranes();
        x.prize(2, 33, 44);
        x.prize(1, 5, 6);
        x.prize(0, 7, 8);
        x.add(6);
        x.add(6);
        Check.due("kind", x.of(0, 0), 2);
        Check.due("weight", x.of(0, 1), 33);
        Check.due("value", x.of(0, 2), 44);
        Check.due("in the pit", x.of(0, 3), 1);
        Check.due("lowest", x.of(0, 4), 60);
        Check.due("on it", x.of(1, 4), 61);
        Check.due("in the store", x.of(2, 3), 0);
        Check.due("no place in the pit", x.of(2, 4), ClawCranes.NONE);
        x.coins(50);
        x.play(6, 0);
        Check.due("won", x.of(1, 3), 2);
        Check.due("gripped when won", x.of(1, 5), 1);
        x.play(6, 0);
        x.play(6, 4);
        Check.due("gripped twice", x.of(0, 5), 2);
        Check.due("of(-1, 9)", x.of(-1, 9), ClawCranes.NO_SUCH);
        Check.due("of(3, 0)", x.of(3, 0), ClawCranes.NO_SUCH);
        Check.due("of(24, 0)", x.of(24, 0), ClawCranes.NO_SUCH);
        Check.due("of(0, -1)", x.of(0, -1), ClawCranes.BAD_VALUE);
        Check.due("of(0, 6)", x.of(0, 6), ClawCranes.BAD_VALUE);
    }

    private static void at() {
        ClawCranes x = new ClawCranes();
        x.prize(0, 1, 1);
        x.prize(0, 1, 1);
        x.add(7);
        x.add(7);
        Check.due("at(7, 0)", x.at(7, 0), 0);
        Check.due("at(7, 1)", x.at(7, 1), 1);
        Check.due("at(7, 2)", x.at(7, 2), ClawCranes.NONE);
        Check.due("at(7, 4)", x.at(7, 4), ClawCranes.NONE);
        Check.due("at(7, -1)", x.at(7, -1), ClawCranes.NONE);
        Check.due("at(7, least)", x.at(7, Integer.MIN_VALUE), ClawCranes.NONE);
        Check.due("at(7, most)", x.at(7, Integer.MAX_VALUE), ClawCranes.NONE);
        Check.due("at(6, 4)", x.at(6, 4), ClawCranes.NONE);
        Check.due("at(-1, 0)", x.at(-1, 0), ClawCranes.NO_SUCH);
        Check.due("at(8, -1)", x.at(8, -1), ClawCranes.NO_SUCH);
        x.coins(9);
        x.play(7, 0);
        Check.due("won", x.at(7, 1), ClawCranes.NONE);
    }

    private static void row(ClawCranes x, int rank, int what, int column, int prize, int full) {
        Check.due("row " + rank + " what", x.book(rank, 0), what);
        Check.due("row " + rank + " column", x.book(rank, 1), column);
        Check.due("row " + rank + " prize", x.book(rank, 2), prize);
        Check.due("row " + rank + " full", x.book(rank, 3), full);
    }

    private static void book() {
        ClawCranes x = new ClawCranes();
        Check.due("empty book", x.book(0, 9), ClawCranes.NO_SUCH);
        x.prize(0, 20, 1);
        x.prize(0, 46, 1);
        x.prize(0, 47, 1);
        x.prize(0, 48, 1);
        x.add(5);
        x.coins(99);
        x.set(ClawCranes.LACK, 0);
        x.play(3, 0);
        x.play(5, 0);
        x.set(ClawCranes.DUE, 6);
        x.set(ClawCranes.LACK, 3);
        x.play(5, 0);
        row(x, 0, 3, ClawCranes.NONE, 3, 0);
        row(x, 1, 2, 5, 0, 1);
        row(x, 2, 1, 5, 0, 0);
        row(x, 3, 0, 3, ClawCranes.NONE, 0);
        Check.due("book(4, 0)", x.book(4, 0), ClawCranes.NO_SUCH);
        Check.due("book(-1, 0)", x.book(-1, 0), ClawCranes.NO_SUCH);
        Check.due("book(0, -1)", x.book(0, -1), ClawCranes.BAD_VALUE);
        Check.due("book(0, 4)", x.book(0, 4), ClawCranes.BAD_VALUE);
        x.set(ClawCranes.DUE, 1);
        x.play(2, 4);
        row(x, 0, 1, 2, 3, 1);
        x.play(7, 0);
        row(x, 0, 0, 7, ClawCranes.NONE, 1);
    }

    private static void bookOfTen() {
        ClawCranes x = new ClawCranes();
        x.coins(99);
        for (int i = 0; i < 17; i++) {
            x.play(i % 8, 0);
            Check.due("latest", x.book(0, 1), i % 8);
            Check.due("as many as played", x.book(i, 0), i < 10 ? 0 : ClawCranes.NO_SUCH);
        }
        for (int rank = 0; rank < 10; rank++) {
            Check.due("rank " + rank, x.book(rank, 1), (16 - rank) % 8);
        }
        Check.due("rank 10", x.book(10, 1), ClawCranes.NO_SUCH);
    }

    private static void byValue() {
        ClawCranes x = new ClawCranes();
        int[][] prizes = {{30, 5}, {20, 9}, {10, 9}, {10, 9}, {1, 1}, {60, 99}, {1, 99}};
        for (int[] prize : prizes) {
            x.prize(0, prize[0], prize[1]);
        }
        Check.due("empty pit", x.byValue(0), ClawCranes.NO_SUCH);
        for (int i = 0; i < 6; i++) {
            x.add(i % 4);
        }
        int[] order = {5, 2, 3, 1, 0, 4};
        for (int rank = 0; rank < 6; rank++) {
            Check.due("byValue(" + rank + ")", x.byValue(rank), order[rank]);
        }
        Check.due("byValue(6)", x.byValue(6), ClawCranes.NO_SUCH);
        Check.due("byValue(-1)", x.byValue(-1), ClawCranes.NO_SUCH);
        x.coins(9);
        Check.due("the cheap one is won", x.play(0, 0), 14);
        Check.due("byValue(5)", x.byValue(5), ClawCranes.NO_SUCH);
        Check.due("byValue(4)", x.byValue(4), 0);
        x = full();
        for (int rank = 0; rank < 24; rank++) {
            Check.due("24 in the pit: byValue(" + rank + ")", x.byValue(rank), 23 - rank);
        }
        Check.due("byValue(24)", x.byValue(24), ClawCranes.NO_SUCH);
    }

    private static ClawCranes full() {
        ClawCranes x = new ClawCranes();
        for (int i = 0; i < 24; i++) {
            x.prize(0, 10 + i, 20 + i);
            x.add(i / 4);
        }
        return x;
    }

    private static void lighter() {
        ClawCranes x = new ClawCranes();
        x.prize(0, 5, 1);
        x.prize(2, 7, 1);
        x.prize(1, 7, 1);
        x.prize(1, 1, 1);
        x.add(0);
        x.add(0);
        x.add(1);
        Check.due("lighter(4)", x.lighter(4), 0);
        Check.due("lighter(5)", x.lighter(5), 1);
        Check.due("lighter(6)", x.lighter(6), 1);
        Check.due("lighter(7): the weight, not the load", x.lighter(7), 3);
        Check.due("lighter(0)", x.lighter(0), 0);
        Check.due("lighter(most)", x.lighter(Integer.MAX_VALUE), 3);
        Check.due("lighter(-1)", x.lighter(-1), ClawCranes.BAD_VALUE);
        x.coins(9);
        x.play(1, 0);
        Check.due("without the one that was won", x.lighter(60), 2);
        Check.due("24 in the pit", full().lighter(99), 24);
        Check.due("24 in the pit", full().lighter(32), 23);
    }

    private static void count() {
        ClawCranes x = new ClawCranes();
        for (int i = 0; i < 24; i++) {
            x.prize(0, i < 2 ? 5 : 50, 10 + i);
        }
        x.add(2);
        x.add(2);
        x.add(4);
        x.coins(99);
        x.play(2, 0);
        x.play(2, 0);
        x.play(2, 0);
        x.play(4, 0);
        x.set(ClawCranes.DUE, 6);
        x.play(4, 0);
        Check.type(x, "c1;");
        int[] due = {89, 6, 10, 5, 1, 2, 2, 21, (1 << 24) - 16, 12, 238, 1};
        for (int what = 0; what < due.length; what++) {
            Check.due("count(" + what + ")", x.count(what), due[what]);
        }
        int[] settings = {2, 6, 12, 45, 3, 2};
        for (int setting = 0; setting < 6; setting++) {
            Check.due("count(" + (12 + setting) + ")", x.count(12 + setting), settings[setting]);
        }
        Check.due("count(18)", x.count(18), 3);
        Check.due("count(19)", x.count(19), 6);
        Check.due("count(-1)", x.count(-1), ClawCranes.BAD_VALUE);
        Check.due("count(20)", x.count(20), ClawCranes.BAD_VALUE);
        Check.due("count(most)", x.count(Integer.MAX_VALUE), ClawCranes.BAD_VALUE);
        Check.due("count(least)", x.count(Integer.MIN_VALUE), ClawCranes.BAD_VALUE);
    }
}
