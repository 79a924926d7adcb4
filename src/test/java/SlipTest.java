/** Terms: A play, what comes after a slip: falling back, rolling, filling up. */
public final class SlipTest {
    private static final String ROLLS = "A ball rolls: to the neighbour column (next to it) that is lower by 2 or more "
            + "(as it lies yet in its own one), the lower one of two, of two that are as low the left one";
    private static final String FILLS = "If there are fewer than LACK prizes in the pit then, it is filled up: "
            + "until there are LACK, or the store is empty: each prize of the store comes to the lowest column, "
            + "of several the lowest number (as long as one has fewer than 4)";

    public static void main(String[] args) {
        fallsBack();
        rollsWhenLowerByTwo();
        rollsToTheLowerOne();
        rollsAtTheEdges();
        staysWithoutLowerColumn();
        rollsAfterAnAim();
        fillsWhenFewer();
        fillsAfterTheWin();
        fillsUntilLackOrEmpty();
        fillsTheLowest();
        fillsAfterRolling();
        Check.end();
    }

    private static void fallsBack() {
        Check.sentence("Terms", "Otherwise it slips: plush and boxes fall back to their place");
        for (int kind : new int[] {Cranes.PLUSH, Cranes.BOX}) {
            ClawCranes x = Cranes.withColumns(kind, 60, 0, 0, 0, 4, 0);
            Check.due("told before", x.ifPlayed(3, 0), 1);
            Check.due("it slips", x.play(3, 0), 1);
            Check.due("to its place", x.of(3, 4), 33);
            Check.due("it is there", x.at(3, 3), 3);
            Check.due("not beside it", x.count(10), 255 - 8);
            Check.due("slips", x.count(6), 1);
            Check.due("gripped", x.of(3, 5), 1);
        }
    }

    /** A ball on top of a column slips; where it lies then. */
    private static void slips(int column, int where, int... heights) {
        ClawCranes x = Cranes.withColumns(Cranes.BALL, 60, heights);
        int ball = x.at(column, heights[column] - 1);
        Check.due("told before", x.ifPlayed(column, 0), where == column ? 1 : 2);
        Check.due("a ball slips", x.play(column, 0), 1);
        int height = where == column ? heights[column] - 1 : heights[where];
        Check.due("the ball is there", x.of(ball, 4), 10 * where + height);
        Check.due("it lies there", x.at(where, height), ball);
        Check.due("slips", x.count(6), 1);
        Check.due("gripped", x.of(ball, 5), 1);
        Check.due("the book tells a slip", x.book(0, 0), 1);
        Check.due("of the column played at", x.book(0, 1), column);
    }

    private static void rollsWhenLowerByTwo() {
        Check.sentence("Terms", ROLLS);
        slips(3, 3, 1, 1, 0, 1, 0, 1, 1, 1);
        slips(3, 2, 1, 1, 0, 2, 1, 1, 1, 1);
        slips(3, 4, 1, 1, 1, 2, 0, 1, 1, 1);
        slips(3, 3, 0, 0, 1, 2, 1, 0, 0, 0);
        slips(3, 2, 0, 0, 1, 3, 2, 0, 0, 0);
        slips(3, 4, 0, 0, 2, 3, 1, 0, 0, 0);
        slips(3, 3, 0, 0, 2, 3, 2, 0, 0, 0);
        slips(3, 2, 0, 0, 2, 4, 3, 0, 0, 0);
        slips(3, 4, 0, 0, 3, 4, 2, 0, 0, 0);
        slips(3, 3, 0, 0, 3, 4, 3, 0, 0, 0);
    }

    private static void rollsToTheLowerOne() {
        Check.sentence("Terms", ROLLS);
        slips(3, 2, 0, 0, 0, 2, 0, 0, 0, 0);
        slips(3, 2, 0, 0, 1, 3, 1, 0, 0, 0);
        slips(3, 2, 0, 0, 2, 4, 2, 0, 0, 0);
        slips(3, 4, 0, 0, 1, 3, 0, 0, 0, 0);
        slips(3, 2, 0, 0, 0, 3, 1, 0, 0, 0);
        slips(3, 4, 0, 0, 2, 4, 1, 0, 0, 0);
        slips(3, 2, 0, 0, 1, 4, 2, 0, 0, 0);
        slips(3, 4, 0, 0, 4, 4, 2, 0, 0, 0);
        slips(3, 2, 0, 0, 2, 4, 4, 0, 0, 0);
    }

    private static void rollsAtTheEdges() {
        Check.sentence("Terms", ROLLS);
        slips(0, 1, 2, 0, 0, 0, 0, 0, 0, 0);
        slips(0, 0, 2, 1, 0, 0, 0, 0, 0, 0);
        slips(0, 1, 4, 2, 0, 0, 0, 0, 0, 0);
        slips(0, 0, 4, 3, 0, 0, 0, 0, 0, 0);
        slips(1, 0, 0, 2, 0, 0, 0, 0, 0, 0);
        slips(6, 7, 0, 0, 0, 0, 0, 1, 2, 0);
        slips(7, 6, 0, 0, 0, 0, 0, 0, 0, 2);
        slips(7, 7, 0, 0, 0, 0, 0, 0, 1, 2);
        slips(7, 6, 0, 0, 0, 0, 0, 0, 2, 4);
        slips(7, 7, 0, 0, 0, 0, 0, 0, 3, 4);
    }

    private static void staysWithoutLowerColumn() {
        Check.sentence("Terms", "without such a column it falls back, too");
        slips(0, 0, 1, 0, 0, 0, 0, 0, 0, 0);
        slips(7, 7, 0, 0, 0, 0, 0, 0, 0, 1);
        slips(3, 3, 0, 0, 4, 4, 4, 0, 0, 0);
        slips(3, 3, 0, 0, 4, 2, 4, 0, 0, 0);
        slips(3, 3, 0, 0, 3, 4, 4, 0, 0, 0);
    }

    private static void rollsAfterAnAim() {
        Check.sentence("Terms", ROLLS);
        ClawCranes x = Cranes.withColumns(Cranes.BALL, 12, 0, 2);
        Check.due("an aim moves nothing but the grip", x.play(1, 4), 1);
        Check.due("to the left one", x.of(1, 4), 0);
        Check.due("then it lies alone", x.play(0, 4), 1);
        Check.due("and stays", x.of(1, 4), 0);
    }

    /** A play at an empty column with some prizes in the pit; how many come then. */
    private static int come(int inPit, int lack, int inStore) {
        ClawCranes x = Cranes.withColumns(Cranes.PLUSH, 60, Math.min(inPit, 4), Math.max(0, inPit - 4));
        Cranes.store(x, inStore, Cranes.PLUSH, 60);
        x.set(ClawCranes.LACK, lack);
        x.play(7, 0);
        int come = Integer.bitCount(x.count(9)) - inPit;
        Check.due("the store", Integer.bitCount(x.count(8)), inStore - come);
        Check.due("a filling to which none came is none", x.count(11), come > 0 ? 1 : 0);
        Check.due("the latest row of the book", x.book(0, 0), come > 0 ? 3 : 0);
        Check.due("how many it tells", x.book(0, 2), come > 0 ? come : ClawCranes.NONE);
        return come;
    }

    private static void fillsWhenFewer() {
        Check.sentence("Terms", FILLS);
        Check.due("1 fewer", come(1, 2, 5), 1);
        Check.due("as many", come(2, 2, 5), 0);
        Check.due("1 more", come(3, 2, 5), 0);
        Check.due("LACK of 0", come(0, 0, 5), 0);
        Check.due("LACK of 1", come(0, 1, 5), 1);
        Check.due("LACK of 1, as many", come(1, 1, 5), 0);
        Check.due("LACK of 8, 1 fewer", come(7, 8, 5), 1);
        Check.due("LACK of 8, as many", come(8, 8, 5), 0);
    }

    private static void fillsAfterTheWin() {
        Check.sentence("Terms", FILLS);
        ClawCranes x = Cranes.withColumns(Cranes.PLUSH, 12, 0, 0, 2);
        Cranes.store(x, 3, Cranes.PLUSH, 12);
        x.set(ClawCranes.LACK, 2);
        Check.due("a slip leaves as many as LACK", x.play(2, 1), 1);
        Check.due("nothing comes", x.count(11), 0);
        Check.due("a win leaves 1 fewer", x.play(2, 0), 11);
        Check.due("one comes", x.at(0, 0), 2);
        Check.due("not more", x.count(8), 24);
        Check.due("one filling", x.count(11), 1);
    }

    private static void fillsUntilLackOrEmpty() {
        Check.sentence("Terms", FILLS);
        Check.due("until there are LACK", come(2, 6, 9), 4);
        Check.due("1 more in the store than lack", come(2, 6, 5), 4);
        Check.due("as many in the store as lack", come(2, 6, 4), 4);
        Check.due("1 fewer in the store than lack", come(2, 6, 3), 3);
        Check.due("one in the store", come(2, 6, 1), 1);
        Check.due("an empty store", come(2, 6, 0), 0);
        Check.due("an empty pit", come(0, 8, 9), 8);
        Check.due("an empty pit and store", come(0, 8, 0), 0);
    }

    private static void lies(ClawCranes x, int... heights) {
        for (int column = 0; column < 8; column++) {
            for (int height = 0; height < 4; height++) {
                Check.holds("column " + column + " has " + heights[column],
                        x.at(column, height) >= 0 == height < heights[column]);
            }
        }
    }

    private static void fillsTheLowest() {
        Check.sentence("Terms", FILLS);
        ClawCranes x = Cranes.withColumns(Cranes.BOX, 60, 1, 0, 4, 0, 0, 1, 0, 0);
        Cranes.store(x, 4, Cranes.BALL, 60);
        x.set(ClawCranes.LACK, 8);
        x.play(2, 0);
        lies(x, 1, 1, 4, 1, 0, 1, 0, 0);
        Check.due("the first one to the lowest number", x.at(1, 0), 6);
        Check.due("the next one to the next lowest", x.at(3, 0), 7);
        x = Cranes.withCredit(2);
        Cranes.store(x, 9, Cranes.BOX, 60);
        x.set(ClawCranes.LACK, 8);
        x.play(5, 0);
        lies(x, 1, 1, 1, 1, 1, 1, 1, 1);
        for (int column = 0; column < 8; column++) {
            Check.due("in the order of the store", x.at(column, 0), column);
        }
    }

    private static void fillsAfterRolling() {
        Check.sentence("Terms", FILLS);
        ClawCranes x = Cranes.withColumns(Cranes.BALL, 60, 2);
        Cranes.store(x, 3, Cranes.PLUSH, 60);
        x.set(ClawCranes.LACK, 4);
        Check.due("a ball rolls to column 1", x.play(0, 0), 1);
        Check.due("it lies there", x.at(1, 0), 1);
        Check.due("the first one beside it", x.at(2, 0), 2);
        Check.due("the next one", x.at(3, 0), 3);
        lies(x, 1, 1, 1, 1, 0, 0, 0, 0);
        x = Cranes.withColumns(Cranes.PLUSH, 12, 1, 1);
        Cranes.store(x, 1, Cranes.PLUSH, 60);
        x.set(ClawCranes.LACK, 2);
        x.play(0, 0);
        Check.due("to the column that was emptied by the play", x.at(0, 0), 2);
    }
}
