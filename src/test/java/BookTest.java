/** Terms: The book; promise 9: book. */
public final class BookTest {
    private static final String TELLS = "The book tells the latest 10 plays and fillings: 0 nothing was gripped, "
            + "1 a prize slipped, 2 a prize was won, 3 prizes came to the pit by filling up";
    private static final String WHAT = "`what`: 0 what it tells, 0 to 3, 1 the column (NONE for a filling), "
            + "2 the prize (NONE if nothing was gripped; for a filling how many came), "
            + "3 whether the grip was full (1 or 0; 0 for a filling)";

    public static void main(String[] args) {
        latestTen();
        fillingsCount();
        twoRowsOfOnePlay();
        nothingElseIsTold();
        rows();
        fullRows();
        rolledAndFilled();
        noSuchRow();
        noSuchWhat();
        Check.end();
    }

    private static void latestTen() {
        Check.sentence("Terms", TELLS);
        ClawCranes x = Cranes.withCredit(99);
        for (int plays = 1; plays <= 23; plays++) {
            x.play(plays % 8, 0);
            int rows = Math.min(plays, 10);
            Check.due("the latest one of " + plays, x.book(0, 1), plays % 8);
            Check.due("the oldest one of " + plays, x.book(rows - 1, 1), (plays - rows + 1) % 8);
            Check.due("none before it", x.book(rows, 1), ClawCranes.NO_SUCH);
        }
        for (int rank = 0; rank < 10; rank++) {
            Check.due("rank " + rank, x.book(rank, 1), (23 - rank) % 8);
        }
    }

    /** Eight plays at column 6, then one with a filling of two prizes. */
    private static ClawCranes withNinePlays() {
        ClawCranes x = Cranes.withCredit(99);
        Cranes.playAt(x, 6, 8);
        Cranes.store(x, 2, Cranes.PLUSH, 60);
        x.play(5, 0);
        return x;
    }

    private static void fillingsCount() {
        Check.sentence("Terms", TELLS);
        ClawCranes x = withNinePlays();
        Check.due("the filling", x.book(0, 0), 3);
        Check.due("the play before it", x.book(1, 1), 5);
        Check.due("the oldest one", x.book(9, 1), 6);
        Check.due("ten rows", x.book(10, 1), ClawCranes.NO_SUCH);
    }

    private static void twoRowsOfOnePlay() {
        Check.sentence("Terms", TELLS);
        ClawCranes x = withNinePlays();
        x.set(ClawCranes.LACK, 3);
        Cranes.store(x, 1, Cranes.PLUSH, 60);
        x.play(4, 0);
        Check.due("a filling more", x.book(0, 0), 3);
        Check.due("its play", x.book(1, 1), 4);
        Check.due("the filling before", x.book(2, 0), 3);
        Check.due("its play", x.book(3, 1), 5);
        Check.due("six are left of eight", x.book(9, 1), 6);
        Check.due("ten rows", x.book(10, 1), ClawCranes.NO_SUCH);
        Cranes.playAt(x, 3, 7);
        Check.due("the play is the ninth", x.book(8, 1), 4);
        Check.due("the filling before is the oldest", x.book(9, 0), 3);
        x.play(3, 0);
        Check.due("it was dropped", x.book(9, 1), 4);
    }

    private static void nothingElseIsTold() {
        Check.sentence("Terms", TELLS);
        ClawCranes x = Cranes.withCredit(99);
        x.set(ClawCranes.LACK, 8);
        Cranes.store(x, 3, Cranes.PLUSH, 1);
        x.add(0);
        x.play(8, 0);
        x.ifPlayed(0, 0);
        x.costs(0);
        x.save(0);
        x.restore(0);
        Check.due("no play and no filling", x.book(0, 0), ClawCranes.NO_SUCH);
    }

    private static void row(ClawCranes x, int rank, int tells, int column, int prize, int full) {
        Check.due("row " + rank + ": what it tells", x.book(rank, 0), tells);
        Check.due("row " + rank + ": the column", x.book(rank, 1), column);
        Check.due("row " + rank + ": the prize", x.book(rank, 2), prize);
        Check.due("row " + rank + ": full", x.book(rank, 3), full);
    }

    private static void rows() {
        Check.sentence("Promise 9", WHAT);
        ClawCranes x = Cranes.withColumns(Cranes.PLUSH, 12, 2, 0, 0, 0, 0, 0, 0, 1);
        x.play(3, 0);
        row(x, 0, 0, 3, ClawCranes.NONE, 0);
        x.play(0, 1);
        row(x, 0, 1, 0, 1, 0);
        x.play(7, 0);
        row(x, 0, 2, 7, 2, 0);
        Cranes.store(x, 3, Cranes.PLUSH, 12);
        x.set(ClawCranes.LACK, 3);
        x.play(0, 0);
        Check.sentence("Promise 9", "`rank`: 0 for the latest one", "Returns the number");
        row(x, 0, 3, ClawCranes.NONE, 2, 0);
        row(x, 1, 2, 0, 1, 0);
        row(x, 2, 2, 7, 2, 0);
        row(x, 3, 1, 0, 1, 0);
        row(x, 4, 0, 3, ClawCranes.NONE, 0);
    }

    private static void fullRows() {
        Check.sentence("Promise 9", WHAT);
        ClawCranes x = Cranes.withColumns(Cranes.PLUSH, 45, 1, 1);
        Cranes.store(x, 3, Cranes.PLUSH, 46);
        x.set(ClawCranes.DUE, 2);
        x.play(6, 4);
        row(x, 0, 0, 6, ClawCranes.NONE, 1);
        x.play(0, 1);
        row(x, 0, 1, 0, 0, 1);
        x.set(ClawCranes.LACK, 2);
        x.play(0, 0);
        row(x, 0, 3, ClawCranes.NONE, 1, 0);
        row(x, 1, 2, 0, 0, 1);
        x.set(ClawCranes.DUE, 3);
        x.play(0, 0);
        row(x, 0, 1, 0, 2, 0);
        x.set(ClawCranes.DUE, 4);
        row(x, 0, 1, 0, 2, 0);
    }

    private static void rolledAndFilled() {
        Check.sentence("Promise 9", WHAT);
        ClawCranes x = Cranes.withColumns(Cranes.BALL, 60, 0, 0, 2);
        Cranes.store(x, 9, Cranes.PLUSH, 60);
        x.set(ClawCranes.LACK, 8);
        x.play(2, 0);
        row(x, 0, 3, ClawCranes.NONE, 6, 0);
        row(x, 1, 1, 2, 1, 0);
        Check.due("it rolled to column 1", x.of(1, 4), 10);
        ClawCranes y = Cranes.withCredit(2);
        Cranes.store(y, 9, Cranes.PLUSH, 60);
        y.set(ClawCranes.LACK, 8);
        y.play(7, 0);
        row(y, 0, 3, ClawCranes.NONE, 8, 0);
        row(y, 1, 0, 7, ClawCranes.NONE, 0);
    }

    private static void noSuchRow() {
        Check.sentence("Promise 9", "NO_SUCH if there are not so many");
        Check.due("an empty book", new ClawCranes().book(0, 0), ClawCranes.NO_SUCH);
        ClawCranes x = Cranes.withCredit(99);
        x.play(0, 0);
        Check.due("the only row", x.book(0, 0), 0);
        Check.due("no second one", x.book(1, 0), ClawCranes.NO_SUCH);
        Cranes.playAt(x, 0, 8);
        Check.due("nine rows", x.book(8, 0), 0);
        Check.due("no tenth one", x.book(9, 0), ClawCranes.NO_SUCH);
        Cranes.playAt(x, 0, 8);
        Check.due("ten rows", x.book(9, 0), 0);
        for (int rank : new int[] {-1, 10, 11, Integer.MIN_VALUE, Integer.MAX_VALUE}) {
            Check.due("book(" + rank + ", 0)", x.book(rank, 0), ClawCranes.NO_SUCH);
        }
    }

    private static void noSuchWhat() {
        Check.sentence("Promise 9", "BAD_VALUE if what is out of range");
        ClawCranes x = Cranes.withCredit(99);
        x.play(7, 0);
        Check.due("book(0, 0)", x.book(0, 0), 0);
        Check.due("book(0, 3)", x.book(0, 3), 0);
        for (int what : new int[] {-1, 4, Integer.MIN_VALUE, Integer.MAX_VALUE}) {
            Check.due("book(0, " + what + ")", x.book(0, what), ClawCranes.BAD_VALUE);
        }
    }
}
