/** Terms: A play, but for what comes after a slip; promise 6: play. */
public final class PlayTest {
    public static void main(String[] args) {
        aims();
        coinsArePaid();
        paidSinceThePrize();
        fullWithDue();
        fullMayBeLess();
        slipOfEachStep();
        emptyColumn();
        topPrizeIsGripped();
        loadOfPlush();
        loadOfBalls();
        loadOfBoxes();
        gripAgainstLoad();
        winningEndsWhatWasPaid();
        answers();
        noSuchColumn();
        notPossible();
        Check.end();
    }

    private static void aims() {
        Check.sentence("Terms", "A play is at a column, with an aim of 0 to 4 steps beside it");
        ClawCranes x = Cranes.withCredit(99);
        for (int aim = 0; aim <= 4; aim++) {
            Check.due("play(0, " + aim + ")", x.play(0, aim), 0);
        }
        Check.sentence("Promise 6", "`aim`: 0 to 4", "BAD_VALUE if aim is out of range");
        for (int aim : Cranes.NO_AIMS) {
            Check.due("play(0, " + aim + ")", x.play(0, aim), ClawCranes.BAD_VALUE);
        }
        Check.due("plays", x.count(3), 5);
    }

    private static void coinsArePaid() {
        Check.sentence("Terms", "COIN coins of the credit are paid");
        ClawCranes x = Cranes.withCredit(20);
        x.set(ClawCranes.COIN, 9);
        x.play(0, 0);
        Check.due("credit", x.count(0), 11);
        x.play(0, 0);
        Check.due("credit", x.count(0), 2);
        Check.due("paid so far", x.count(2), 18);
        x.set(ClawCranes.COIN, 2);
        x.play(0, 0);
        Check.due("all of the credit", x.count(0), 0);
        Check.due("paid so far", x.count(2), 20);
    }

    private static void paidSinceThePrize() {
        Check.sentence("Terms", "they are counted to what was paid since the last prize (0 at first)");
        ClawCranes x = Cranes.withColumns(Cranes.PLUSH, 20, 1);
        Check.due("at first", x.count(1), 0);
        x.play(7, 0);
        Check.due("nothing gripped", x.count(1), 2);
        x.play(0, 0);
        Check.due("a slip", x.count(1), 4);
        x.set(ClawCranes.COIN, 5);
        x.play(0, 0);
        Check.due("COIN as it is now", x.count(1), 9);
        x.set(ClawCranes.WEAK, 20);
        x.play(0, 0);
        Check.due("a prize", x.count(1), 0);
        x.play(0, 0);
        Check.due("after the prize", x.count(1), 5);
        Check.due("paid so far goes on", x.count(2), 19);
    }

    /** After some plays at an empty column, whether the next one has the full grip. */
    private static int fullAfter(int coin, int due, int plays) {
        ClawCranes x = Cranes.withCredit(400);
        x.set(ClawCranes.COIN, coin);
        x.set(ClawCranes.DUE, due);
        Cranes.playAt(x, 5, plays);
        int before = x.count(4);
        x.prize(Cranes.PLUSH, 45, 1);
        x.add(2);
        Check.due("told before", x.untilFull() == 0 ? 1 : 0, x.ifPlayed(2, 0) == 10 ? 1 : 0);
        int answer = x.play(2, 0);
        Check.due("a play with the full grip is counted", x.count(4) - before, answer == 10 ? 1 : 0);
        Check.due("it is told in the book", x.book(0, 3), answer == 10 ? 1 : 0);
        return answer == 10 ? 1 : 0;
    }

    private static void fullWithDue() {
        Check.sentence("Terms", "The grip is FULL, if that is DUE or more, otherwise WEAK");
        Check.due("2 * 9 of 20", fullAfter(2, 20, 8), 0);
        Check.due("2 * 10 of 20", fullAfter(2, 20, 9), 1);
        Check.due("2 * 11 of 20", fullAfter(2, 20, 10), 1);
        Check.due("2 * 10 of 21", fullAfter(2, 21, 9), 0);
        Check.due("2 * 11 of 21", fullAfter(2, 21, 10), 1);
        Check.due("1 of 1", fullAfter(1, 1, 0), 1);
        Check.due("1 of 2", fullAfter(1, 2, 0), 0);
        Check.due("9 of 9", fullAfter(9, 9, 0), 1);
        Check.due("9 of 10", fullAfter(9, 10, 0), 0);
        Check.due("9 of 1", fullAfter(9, 1, 0), 1);
        Check.due("199 of 200", fullAfter(1, 200, 198), 0);
        Check.due("200 of 200", fullAfter(1, 200, 199), 1);
        Check.due("9 * 22 of 200", fullAfter(9, 200, 21), 0);
        Check.due("9 * 23 of 200", fullAfter(9, 200, 22), 1);
    }

    private static void fullMayBeLess() {
        Check.sentence("Terms", "The grip is FULL, if that is DUE or more, otherwise WEAK");
        ClawCranes x = Cranes.withColumns(Cranes.PLUSH, 12, 2);
        x.set(ClawCranes.FULL, 11);
        x.set(ClawCranes.DUE, 4);
        Check.due("weak", x.play(0, 0), 11);
        x.play(7, 0);
        Check.due("full, and less than weak", x.play(0, 0), 1);
    }

    private static int playedAside(int weight, int aim) {
        return Cranes.withColumns(Cranes.PLUSH, weight, 1).play(0, aim);
    }

    private static void slipOfEachStep() {
        Check.sentence("Terms", "and SLIP less for each step of aim");
        for (int aim = 0; aim <= 3; aim++) {
            Check.due("aim " + aim + ": 12 less 3 for each step", playedAside(12 - 3 * aim, aim), 10);
            Check.due("aim " + aim + ": 1 more", playedAside(13 - 3 * aim, aim), 1);
        }
        Check.due("aim 4: a grip of 0 lifts nothing", playedAside(1, 4), 1);
        ClawCranes x = Cranes.withColumns(Cranes.PLUSH, 33, 1);
        x.set(ClawCranes.DUE, 1);
        Check.due("45 - 4 * 3 lifts 33", x.play(0, 4), 10);
        x = Cranes.withColumns(Cranes.PLUSH, 34, 1);
        x.set(ClawCranes.DUE, 1);
        Check.due("and no 34", x.play(0, 4), 1);
    }

    private static void emptyColumn() {
        Check.sentence("Terms", "In an empty column nothing is gripped");
        ClawCranes x = Cranes.withColumns(Cranes.PLUSH, 1, 0, 1, 0);
        Check.due("between two", x.play(0, 0), 0);
        Check.due("with an aim", x.play(2, 4), 0);
        Check.due("slips", x.count(6), 0);
        Check.due("plays", x.count(3), 2);
        Check.due("not gripped", x.of(0, 5), 0);
        x.play(1, 0);
        Check.due("its only prize was won", x.play(1, 0), 0);
    }

    private static void topPrizeIsGripped() {
        Check.sentence("Terms", "Otherwise the top prize is gripped");
        ClawCranes x = Cranes.withColumns(Cranes.PLUSH, 20, 0, 4);
        x.play(1, 0);
        x.play(1, 1);
        for (int prize = 0; prize < 4; prize++) {
            Check.due("grips of " + prize, x.of(prize, 5), prize == 3 ? 2 : 0);
        }
        x.set(ClawCranes.WEAK, 20);
        for (int prize = 3; prize >= 0; prize--) {
            Check.due("the top one", x.play(1, 0), 10 + prize);
        }
        Check.due("grips of 3", x.of(3, 5), 3);
        Check.due("grips of 0", x.of(0, 5), 1);
    }

    private static final String LOAD = "its load is its weight, and for a ball 5 more with an aim of 1 or more, "
            + "and for a box 2 more for each prize that is beneath it";

    /** load() tells the least grip that wins, and a grip that is 1 less wins nothing. */
    private static void loaded(String what, int kind, int weight, int beneath, int aim, int load) {
        for (int less = 0; less <= 1; less++) {
            ClawCranes x = Cranes.withColumns(Cranes.BALL, 60, 0, 0, 0, beneath);
            x.prize(kind, weight, 1);
            x.add(3);
            x.set(ClawCranes.SLIP, 0);
            x.set(ClawCranes.DUE, 1);
            x.set(ClawCranes.FULL, load - less);
            Check.due("load of " + what, x.load(3, aim), load);
            Check.due("it is won, if not 1 less", x.play(3, aim), less == 0 ? 10 + beneath : 1);
        }
    }

    private static void loadOfPlush() {
        Check.sentence("Terms", LOAD);
        loaded("plush", Cranes.PLUSH, 60, 0, 0, 60);
        loaded("plush with an aim", Cranes.PLUSH, 60, 0, 4, 60);
        loaded("plush on 3", Cranes.PLUSH, 2, 3, 1, 2);
    }

    private static void loadOfBalls() {
        Check.sentence("Terms", LOAD);
        loaded("a ball", Cranes.BALL, 60, 0, 0, 60);
        loaded("a ball with the aim 1", Cranes.BALL, 60, 0, 1, 65);
        loaded("a ball with the aim 2", Cranes.BALL, 60, 0, 2, 65);
        loaded("a ball with the aim 4", Cranes.BALL, 1, 0, 4, 6);
        loaded("a ball on 3", Cranes.BALL, 30, 3, 0, 30);
        loaded("a ball on 3 with an aim", Cranes.BALL, 30, 3, 1, 35);
    }

    private static void loadOfBoxes() {
        Check.sentence("Terms", LOAD);
        loaded("a box alone", Cranes.BOX, 60, 0, 0, 60);
        loaded("a box alone with an aim", Cranes.BOX, 60, 0, 1, 60);
        loaded("a box on 1", Cranes.BOX, 60, 1, 0, 62);
        loaded("a box on 2", Cranes.BOX, 2, 2, 0, 6);
        loaded("a box on 3", Cranes.BOX, 60, 3, 0, 66);
        loaded("a box on 3 with an aim", Cranes.BOX, 60, 3, 4, 66);
    }

    private static void gripAgainstLoad() {
        Check.sentence("Terms", "If the grip is as much as the load, or more, the prize is won");
        Check.due("1 more", playedAside(11, 0), 10);
        Check.due("as much", playedAside(12, 0), 10);
        Check.due("1 less", playedAside(13, 0), 1);
        ClawCranes x = Cranes.withColumns(Cranes.PLUSH, 12, 2);
        x.play(0, 0);
        Check.due("where it is then", x.of(1, 3), 2);
        Check.due("it is not in the pit", x.of(1, 4), ClawCranes.NONE);
        Check.due("its place is empty", x.at(0, 1), ClawCranes.NONE);
        Check.due("the one beneath it stays", x.at(0, 0), 0);
    }

    private static void winningEndsWhatWasPaid() {
        Check.sentence("Terms", "and what was paid since the last prize is 0");
        ClawCranes x = Cranes.withColumns(Cranes.PLUSH, 12, 2, 1);
        x.set(ClawCranes.DUE, 6);
        Cranes.playAt(x, 7, 5);
        Check.due("five plays", x.count(1), 10);
        x.play(0, 0);
        Check.due("won with the full grip", x.count(1), 0);
        Check.due("it was full", x.book(0, 3), 1);
        Check.due("then it is weak", x.untilFull(), 2);
        x.play(1, 0);
        Check.due("won with the weak grip", x.count(1), 0);
        x.play(1, 0);
        Check.due("nothing gripped", x.count(1), 2);
    }

    private static void answers() {
        Check.sentence("Promise 6", "A play",
                "Returns 0 if nothing was gripped, 1 if a prize slipped, 10 and the prize if it was won");
        ClawCranes x = Cranes.withColumns(Cranes.PLUSH, 12, 4, 4, 4, 4, 4, 4);
        Check.due("nothing", x.play(6, 0), 0);
        Check.due("slipped", x.play(0, 1), 1);
        for (int won = 0; won < 24; won++) {
            int column = won / 4;
            int prize = 4 * column + 3 - won % 4;
            Check.due("won: prize " + prize, x.play(column, 0), 10 + prize);
        }
        Check.due("nothing is left", x.play(0, 0), 0);
        x = Cranes.withColumns(Cranes.BALL, 20, 2);
        Check.due("rolled", x.play(0, 0), 1);
    }

    private static void noSuchColumn() {
        Check.sentence("Promise 6", "NO_SUCH if there is no such column");
        ClawCranes x = Cranes.withCredit(4);
        for (int column : Cranes.NO_COLUMNS) {
            Check.due("play(" + column + ", 0)", x.play(column, 0), ClawCranes.NO_SUCH);
        }
        Check.due("column 0", x.play(0, 0), 0);
        Check.due("column 7", x.play(7, 0), 0);
    }

    private static void notPossible() {
        Check.sentence("Promise 6", "NOT_POSSIBLE if the credit is less than COIN");
        for (int coin = 1; coin <= 9; coin++) {
            ClawCranes x = Cranes.withCredit(coin - 1);
            x.set(ClawCranes.COIN, coin);
            Check.due("1 less than " + coin, x.play(0, 0), ClawCranes.NOT_POSSIBLE);
            x.coins(1);
            Check.due("as much as " + coin, x.play(0, 0), 0);
            Check.due("no credit", x.play(0, 0), ClawCranes.NOT_POSSIBLE);
            x.coins(9);
            x.coins(1);
            Check.due("more than " + coin, x.play(0, 0), 0);
        }
    }
}
