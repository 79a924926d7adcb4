import java.util.function.Consumer;
import java.util.function.ToIntFunction;

/** Terms: Conventions: which error is returned, and that an error changes nothing. */
public final class ErrorsTest {
    private static final String ORDER = "it names its errors in the order in which they are checked, "
            + "and the first one that applies is returned";
    private static final String NO_ERROR = "it is returned only if no error applies";
    private static final int[] NO_VALUES = {-1, 100, Integer.MIN_VALUE, Integer.MAX_VALUE};

    public static void main(String[] args) {
        codes();
        orderOfPrize();
        orderOfAdd();
        orderOfCoins();
        orderOfPlay();
        orderOfAsking();
        orderOfPut();
        orderOfRestore();
        noneIsNoError();
        changesKeepAll();
        limitsKeepAll();
        textsKeepAll();
        undoAndSlotsKeepAll();
        askingKeepsAll();
        whatIfKeepsAll();
        Check.end();
    }

    private static void codes() {
        Check.sentence("Terms", "A method that fails returns one of the error codes NO_SUCH (-1), BAD_VALUE (-2), "
                + "BAD_TEXT (-3), TOO_MANY (-4) and NOT_POSSIBLE (-5)");
        ClawCranes x = new ClawCranes();
        Check.due("NO_SUCH", x.add(8), -1);
        Check.due("BAD_VALUE", x.coins(0), -2);
        Check.due("BAD_TEXT", x.carryOut(), -3);
        Check.due("NOT_POSSIBLE", x.undo(), -5);
        Cranes.pay(x, 999);
        Check.due("TOO_MANY", x.coins(1), -4);
        Check.due("NONE", x.bestColumn(), -6);
    }

    private static void orderOfPrize() {
        Check.sentence("Terms", ORDER);
        ClawCranes x = new ClawCranes();
        Cranes.store(x, 24, Cranes.PLUSH, 1);
        for (int bad : NO_VALUES) {
            Check.due("prize: kind before TOO_MANY", x.prize(bad, 1, 1), ClawCranes.BAD_VALUE);
            Check.due("prize: weight before TOO_MANY", x.prize(0, bad, 1), ClawCranes.BAD_VALUE);
            Check.due("prize: value before TOO_MANY", x.prize(0, 1, bad), ClawCranes.BAD_VALUE);
        }
        Check.due("prize: TOO_MANY", x.prize(0, 1, 1), ClawCranes.TOO_MANY);
    }

    private static void orderOfAdd() {
        Check.sentence("Terms", ORDER);
        ClawCranes x = Cranes.withColumns(Cranes.PLUSH, 1, 4);
        for (int column : Cranes.NO_COLUMNS) {
            Check.due("add: NO_SUCH before NOT_POSSIBLE", x.add(column), ClawCranes.NO_SUCH);
        }
        Check.due("add: NOT_POSSIBLE before TOO_MANY", x.add(0), ClawCranes.NOT_POSSIBLE);
        Cranes.store(x, 1, Cranes.PLUSH, 1);
        Check.due("add: TOO_MANY", x.add(0), ClawCranes.TOO_MANY);
    }

    private static void orderOfCoins() {
        Check.sentence("Terms", ORDER);
        ClawCranes x = Cranes.withCredit(999);
        for (int many : NO_VALUES) {
            Check.due("coins: BAD_VALUE before TOO_MANY", x.coins(many), ClawCranes.BAD_VALUE);
        }
        Check.due("coins: TOO_MANY", x.coins(99), ClawCranes.TOO_MANY);
    }

    private static void orderOfPlay() {
        Check.sentence("Terms", ORDER);
        ClawCranes poor = Cranes.withCredit(1);
        ClawCranes rich = Cranes.withCredit(99);
        for (int column : Cranes.NO_COLUMNS) {
            for (int aim : Cranes.NO_AIMS) {
                Check.due("play: NO_SUCH before all", poor.play(column, aim), ClawCranes.NO_SUCH);
                Check.due("play: NO_SUCH before BAD_VALUE", rich.play(column, aim), ClawCranes.NO_SUCH);
            }
            Check.due("play: NO_SUCH before NOT_POSSIBLE", poor.play(column, 0), ClawCranes.NO_SUCH);
        }
        for (int aim : Cranes.NO_AIMS) {
            Check.due("play: BAD_VALUE before NOT_POSSIBLE", poor.play(0, aim), ClawCranes.BAD_VALUE);
        }
        Check.due("play: NOT_POSSIBLE", poor.play(0, 0), ClawCranes.NOT_POSSIBLE);
    }

    private static void orderOfAsking() {
        Check.sentence("Terms", ORDER);
        ClawCranes x = Cranes.withColumns(Cranes.PLUSH, 60, 1);
        x.play(0, 0);
        for (int bad : NO_VALUES) {
            for (int other : NO_VALUES) {
                Check.due("of: NO_SUCH before BAD_VALUE", x.of(bad, other), ClawCranes.NO_SUCH);
                Check.due("book: NO_SUCH before BAD_VALUE", x.book(bad, other), ClawCranes.NO_SUCH);
                Check.due("ifPlayed: NO_SUCH before BAD_VALUE", x.ifPlayed(bad, other), ClawCranes.NO_SUCH);
                Check.due("load: NO_SUCH before BAD_VALUE", x.load(bad, other), ClawCranes.NO_SUCH);
            }
            Check.due("of: BAD_VALUE", x.of(0, bad), ClawCranes.BAD_VALUE);
            Check.due("book: BAD_VALUE", x.book(0, bad), ClawCranes.BAD_VALUE);
        }
        ClawCranes empty = new ClawCranes();
        Check.due("of: no prize, and no such what", empty.of(0, 6), ClawCranes.NO_SUCH);
        Check.due("book: no row, and no such what", empty.book(0, 4), ClawCranes.NO_SUCH);
        Check.due("costs: NO_SUCH before NOT_POSSIBLE", empty.costs(8), ClawCranes.NO_SUCH);
    }

    private static void orderOfPut() {
        Check.sentence("Terms", ORDER);
        ClawCranes x = new ClawCranes();
        for (int i = 0; i < 80; i++) {
            x.put('c');
        }
        Check.due("put: no character before TOO_MANY", x.put(0), ClawCranes.BAD_VALUE);
        Check.due("put: a code before TOO_MANY", x.put(32), ClawCranes.BAD_VALUE);
        Check.due("put: one code of two before TOO_MANY", x.put(Cranes.number("c ")), ClawCranes.BAD_VALUE);
        Check.due("put: a bit above 0 before TOO_MANY", x.put(1L << 40 | 'c'), ClawCranes.BAD_VALUE);
        Check.due("put: TOO_MANY", x.put('c'), ClawCranes.TOO_MANY);
    }

    private static void orderOfRestore() {
        Check.sentence("Terms", ORDER);
        Check.due("restore: BAD_VALUE before NOT_POSSIBLE", new ClawCranes().restore(2), ClawCranes.BAD_VALUE);
        Check.due("restore: BAD_VALUE before NOT_POSSIBLE", new ClawCranes().restore(-1), ClawCranes.BAD_VALUE);
    }

    private static void noneIsNoError() {
        Check.sentence("Terms", NO_ERROR);
        ClawCranes x = Cranes.withColumns(Cranes.PLUSH, 46, 0, 1);
        x.play(0, 0);
        Check.due("at: NO_SUCH, and the height is below 0", x.at(8, -1), ClawCranes.NO_SUCH);
        Check.due("at: NO_SUCH, and it has not so many", x.at(-1, 4), ClawCranes.NO_SUCH);
        Check.due("of: NO_SUCH, and not in the pit", x.of(1, 4), ClawCranes.NO_SUCH);
        Check.due("book: NO_SUCH, and no prize", x.book(1, 2), ClawCranes.NO_SUCH);
        Check.due("load: BAD_VALUE, and empty", x.load(0, 5), ClawCranes.BAD_VALUE);
        Check.due("load: NO_SUCH, and empty", x.load(8, 0), ClawCranes.NO_SUCH);
        Check.due("costs: NOT_POSSIBLE, and never won", x.costs(0), ClawCranes.NOT_POSSIBLE);
        Check.due("costs: NONE", x.costs(1), ClawCranes.NONE);
        Check.sentence("Terms", "NONE (-6) is not an error");
        Check.due("a row that tells NONE is a row", x.book(0, 2), ClawCranes.NONE);
        Cranes.type(x, "p0;c1");
        Check.due("a play that grips nothing stops no text", x.carryOut(), 2);
    }

    private static final String KEEPS = "A call that returns an error changes nothing";

    /** A call that returns an error leaves all as it was, with what can be undone, the slots and the pad. */
    private static void keeps(String what, int error, Consumer<ClawCranes> run, ToIntFunction<ClawCranes> call) {
        Traces.alike(what, run, x -> {
            run.accept(x);
            Check.due(what, call.applyAsInt(x), error);
        });
    }

    private static void keeps(String what, int error, ToIntFunction<ClawCranes> call) {
        keeps(what, error, Cranes::live, call);
    }

    private static void changesKeepAll() {
        Check.sentence("Terms", KEEPS);
        keeps("set(-1, 1)", ClawCranes.BAD_VALUE, x -> x.set(-1, 1));
        keeps("set(6, 1)", ClawCranes.BAD_VALUE, x -> x.set(6, 1));
        int[] most = {9, 200, 60, 99, 9, 8};
        for (int setting = 0; setting < 6; setting++) {
            int number = setting;
            int above = most[setting] + 1;
            keeps("set above", ClawCranes.BAD_VALUE, x -> x.set(number, above));
            keeps("set below", ClawCranes.BAD_VALUE, x -> x.set(number, -1));
        }
        keeps("prize: kind", ClawCranes.BAD_VALUE, x -> x.prize(3, 1, 1));
        keeps("prize: weight", ClawCranes.BAD_VALUE, x -> x.prize(0, 61, 1));
        keeps("prize: value", ClawCranes.BAD_VALUE, x -> x.prize(0, 1, 100));
        keeps("add: column", ClawCranes.NO_SUCH, x -> x.add(8));
        keeps("coins(0)", ClawCranes.BAD_VALUE, x -> x.coins(0));
        keeps("coins(100)", ClawCranes.BAD_VALUE, x -> x.coins(100));
        keeps("play: column", ClawCranes.NO_SUCH, x -> x.play(8, 0));
        keeps("play: aim", ClawCranes.BAD_VALUE, x -> x.play(0, 5));
    }

    private static void limitsKeepAll() {
        Check.sentence("Terms", KEEPS);
        Consumer<ClawCranes> full = x -> {
            Cranes.live(x);
            Cranes.store(x, 16, Cranes.BALL, 30);
            Cranes.pay(x, 870);
            Cranes.addTo(x, 6, 4);
        };
        keeps("prize: TOO_MANY", ClawCranes.TOO_MANY, full, x -> x.prize(0, 1, 1));
        keeps("add: TOO_MANY", ClawCranes.TOO_MANY, full, x -> x.add(6));
        keeps("coins: TOO_MANY", ClawCranes.TOO_MANY, full, x -> x.coins(99));
        Consumer<ClawCranes> poor = x -> {
            Cranes.live(x);
            Cranes.addTo(x, 7, 3);
            x.set(ClawCranes.COIN, 9);
            Cranes.playAt(x, 3, 14);
        };
        keeps("add: NOT_POSSIBLE", ClawCranes.NOT_POSSIBLE, poor, x -> x.add(6));
        keeps("play: NOT_POSSIBLE", ClawCranes.NOT_POSSIBLE, poor, x -> x.play(3, 0));
    }

    private static void textsKeepAll() {
        Check.sentence("Terms", KEEPS);
        keeps("put: no character", ClawCranes.BAD_VALUE, x -> x.put(0));
        keeps("put: a code", ClawCranes.BAD_VALUE, x -> x.put(Cranes.number(";c1 ")));
        keeps("put: the first code", ClawCranes.BAD_VALUE, x -> x.put(Cranes.number(" ;c1")));
        keeps("put: a bit above 0", ClawCranes.BAD_VALUE, x -> x.put(1L << 63 | Cranes.number(";c1")));
        Consumer<ClawCranes> longest = x -> {
            Cranes.live(x);
            for (int i = 0; i < 8; i++) {
                Cranes.type(x, ";nx12=34");
            }
            Cranes.type(x, ";c10");
        };
        keeps("put: TOO_MANY", ClawCranes.TOO_MANY, longest, x -> x.put(Cranes.number(";c1")));
        Consumer<ClawCranes> faulty = x -> {
            Cranes.live(x);
            Cranes.type(x, ";c5;c");
        };
        keeps("carryOut: BAD_TEXT", ClawCranes.BAD_TEXT, faulty, ClawCranes::carryOut);
    }

    private static void undoAndSlotsKeepAll() {
        Check.sentence("Terms", KEEPS);
        Consumer<ClawCranes> undone = x -> {
            Cranes.live(x);
            Cranes.undoAll(x);
        };
        keeps("undo: NOT_POSSIBLE", ClawCranes.NOT_POSSIBLE, undone, ClawCranes::undo);
        keeps("save(2)", ClawCranes.BAD_VALUE, x -> x.save(2));
        keeps("save(-1)", ClawCranes.BAD_VALUE, x -> x.save(-1));
        keeps("restore(2)", ClawCranes.BAD_VALUE, x -> x.restore(2));
        keeps("restore(-1)", ClawCranes.BAD_VALUE, x -> x.restore(-1));
        keeps("restore(1)", ClawCranes.NOT_POSSIBLE, x -> x.restore(1));
    }

    private static void askingKeepsAll() {
        Check.sentence("Terms", KEEPS);
        keeps("of: prize", ClawCranes.NO_SUCH, x -> x.of(24, 0));
        keeps("of: what", ClawCranes.BAD_VALUE, x -> x.of(0, 6));
        keeps("at: column", ClawCranes.NO_SUCH, x -> x.at(8, 0));
        keeps("at: height", ClawCranes.NONE, x -> x.at(0, 4));
        keeps("book: rank", ClawCranes.NO_SUCH, x -> x.book(10, 0));
        keeps("book: what", ClawCranes.BAD_VALUE, x -> x.book(0, 4));
        keeps("byValue: rank", ClawCranes.NO_SUCH, x -> x.byValue(24));
        keeps("lighter: weight", ClawCranes.BAD_VALUE, x -> x.lighter(-1));
        keeps("count: what", ClawCranes.BAD_VALUE, x -> x.count(20));
        keeps("ifPlayed: column", ClawCranes.NO_SUCH, x -> x.ifPlayed(8, 0));
        keeps("ifPlayed: aim", ClawCranes.BAD_VALUE, x -> x.ifPlayed(0, 5));
        keeps("load: column", ClawCranes.NO_SUCH, x -> x.load(8, 0));
        keeps("load: aim", ClawCranes.BAD_VALUE, x -> x.load(0, 5));
        keeps("costs: column", ClawCranes.NO_SUCH, x -> x.costs(8));
        keeps("costs: empty", ClawCranes.NOT_POSSIBLE, x -> x.costs(7));
    }

    private static void whatIfKeepsAll() {
        Check.sentence("Terms", "what if; nothing changes");
        for (int column = 0; column < 4; column++) {
            int number = column;
            Traces.alike("what if at " + column, Cranes::live, x -> {
                Cranes.live(x);
                x.costs(number);
                x.ifPlayed(number, 0);
                x.ifPlayed(number, 4);
                x.load(number, 4);
                x.untilFull();
                x.bestColumn();
            });
        }
    }
}
