/** Terms: Settings; promise 2: set. */
public final class SettingsTest {
    private static final int[] FIRST = {2, 20, 12, 45, 3, 2};

    public static void main(String[] args) {
        firstValues();
        coin();
        due();
        weak();
        full();
        slip();
        lack();
        changesOneSetting();
        previousValue();
        noSuchSetting();
        Check.end();
    }

    private static void firstValues() {
        Check.sentence("Terms", "(In parentheses: range; first value.)");
        ClawCranes x = new ClawCranes();
        for (int setting = 0; setting < 6; setting++) {
            Check.due("setting " + setting, x.count(12 + setting), FIRST[setting]);
        }
    }

    private static void range(int setting, int least, int most) {
        ClawCranes x = new ClawCranes();
        for (int value : new int[] {least - 1, most + 1, Integer.MIN_VALUE, Integer.MAX_VALUE}) {
            Check.due("set(" + setting + ", " + value + ")", x.set(setting, value), ClawCranes.BAD_VALUE);
            Check.due("then it is as before", x.count(12 + setting), FIRST[setting]);
        }
        Check.due("set to the least", x.set(setting, least), FIRST[setting]);
        Check.due("the least", x.count(12 + setting), least);
        Check.due("set to the most", x.set(setting, most), least);
        Check.due("the most", x.count(12 + setting), most);
        Check.due("set above the most", x.set(setting, most + 1), ClawCranes.BAD_VALUE);
        Check.due("still the most", x.count(12 + setting), most);
    }

    private static void coin() {
        Check.sentence("Terms", "COIN (1 to 9; 2): coins of a play");
        range(ClawCranes.COIN, 1, 9);
        for (int coin = 1; coin <= 9; coin++) {
            ClawCranes x = Cranes.withCredit(10);
            x.set(ClawCranes.COIN, coin);
            x.play(0, 0);
            Check.due("credit after a play of " + coin, x.count(0), 10 - coin);
        }
    }

    private static void due() {
        Check.sentence("Terms",
                "DUE (1 to 200; 20): coins paid for plays since the last prize with which the grip is full");
        range(ClawCranes.DUE, 1, 200);
        ClawCranes x = Cranes.withCredit(300);
        x.set(ClawCranes.COIN, 1);
        x.set(ClawCranes.DUE, 200);
        Cranes.playAt(x, 0, 199);
        Check.due("199 coins: weak", x.count(4), 0);
        x.play(0, 0);
        Check.due("200 coins: full", x.count(4), 1);
        x = Cranes.withCredit(9);
        x.set(ClawCranes.COIN, 1);
        x.set(ClawCranes.DUE, 1);
        x.play(0, 0);
        Check.due("1 coin of 1: full", x.count(4), 1);
    }

    /** A play at a prize alone in its column: 10 if it is won, 1 if it slips. */
    private static int played(ClawCranes x, int kind, int weight, int aim) {
        x.prize(kind, weight, 1);
        x.add(0);
        return x.play(0, aim);
    }

    private static void weak() {
        Check.sentence("Terms", "WEAK (1 to 60; 12), FULL (1 to 99; 45): the grip");
        range(ClawCranes.WEAK, 1, 60);
        Check.due("12 at first", played(Cranes.withCredit(2), Cranes.PLUSH, 12, 0), 10);
        Check.due("13 is too heavy at first", played(Cranes.withCredit(2), Cranes.PLUSH, 13, 0), 1);
        for (int weak : new int[] {1, 59, 60}) {
            ClawCranes x = Cranes.withCredit(2);
            x.set(ClawCranes.WEAK, weak);
            Check.due("WEAK lifts " + weak, played(x, Cranes.PLUSH, weak, 0), 10);
        }
        ClawCranes x = Cranes.withCredit(2);
        x.set(ClawCranes.WEAK, 1);
        Check.due("WEAK of 1 lifts no 2", played(x, Cranes.PLUSH, 2, 0), 1);
        x = Cranes.withCredit(2);
        x.set(ClawCranes.WEAK, 60);
        x.prize(Cranes.PLUSH, 1, 1);
        x.add(0);
        Check.due("WEAK of 60 lifts no box of 59 + 2", played(x, Cranes.BOX, 59, 0), 1);
    }

    private static ClawCranes withFull(int full) {
        ClawCranes x = Cranes.withCredit(2);
        x.set(ClawCranes.DUE, 1);
        if (full > 0) {
            x.set(ClawCranes.FULL, full);
        }
        return x;
    }

    private static void full() {
        Check.sentence("Terms", "WEAK (1 to 60; 12), FULL (1 to 99; 45): the grip");
        range(ClawCranes.FULL, 1, 99);
        Check.due("45 at first", played(withFull(0), Cranes.PLUSH, 45, 0), 10);
        Check.due("46 is too heavy at first", played(withFull(0), Cranes.PLUSH, 46, 0), 1);
        Check.due("FULL of 1 lifts 1", played(withFull(1), Cranes.PLUSH, 1, 0), 10);
        Check.due("FULL of 1 lifts no 2", played(withFull(1), Cranes.PLUSH, 2, 0), 1);
        ClawCranes x = withFull(99);
        x.set(ClawCranes.SLIP, 9);
        Check.due("99 - 4 * 9 = 63 lifts a ball of 58 + 5", played(x, Cranes.BALL, 58, 4), 10);
        x = withFull(99);
        x.set(ClawCranes.SLIP, 9);
        Check.due("and no ball of 59 + 5", played(x, Cranes.BALL, 59, 4), 1);
    }

    private static int playedWithSlip(int slip, int weight, int aim) {
        ClawCranes x = Cranes.withCredit(2);
        x.set(ClawCranes.SLIP, slip);
        return played(x, Cranes.PLUSH, weight, aim);
    }

    private static void slip() {
        Check.sentence("Terms", "SLIP (0 to 9; 3): grip that each step of aim takes");
        range(ClawCranes.SLIP, 0, 9);
        Check.due("12 - 4 * 0 lifts 12", playedWithSlip(0, 12, 4), 10);
        Check.due("12 - 4 * 0 lifts no 13", playedWithSlip(0, 13, 4), 1);
        Check.due("12 - 9 lifts 3", playedWithSlip(9, 3, 1), 10);
        Check.due("12 - 9 lifts no 4", playedWithSlip(9, 4, 1), 1);
        Check.due("12 - 2 * 9 lifts nothing", playedWithSlip(9, 1, 2), 1);
        Check.due("12 - 4 * 9 lifts nothing", playedWithSlip(9, 1, 4), 1);
        Check.due("aim 0: SLIP takes nothing", playedWithSlip(9, 12, 0), 10);
    }

    private static void lack() {
        Check.sentence("Terms", "LACK (0 to 8; 2): with fewer prizes the pit is filled up");
        range(ClawCranes.LACK, 0, 8);
        for (int lack = 0; lack <= 8; lack++) {
            ClawCranes x = Cranes.withCredit(2);
            Cranes.store(x, 9, Cranes.PLUSH, 60);
            x.set(ClawCranes.LACK, lack);
            x.play(0, 0);
            Check.due("prizes in the pit with LACK " + lack, Integer.bitCount(x.count(9)), lack);
            x.play(7, 0);
            Check.due("not fewer than LACK", Integer.bitCount(x.count(9)), lack);
            Check.due("fillings", x.count(11), lack == 0 ? 0 : 1);
        }
    }

    private static void changesOneSetting() {
        Check.sentence("Promise 2", "Changes a setting (the pit is not filled up by that)");
        for (int setting = 0; setting < 6; setting++) {
            ClawCranes x = new ClawCranes();
            x.set(setting, 8);
            for (int other = 0; other < 6; other++) {
                Check.due("setting " + other, x.count(12 + other), other == setting ? 8 : FIRST[other]);
            }
        }
        ClawCranes x = new ClawCranes();
        Cranes.store(x, 9, Cranes.PLUSH, 1);
        x.set(ClawCranes.LACK, 8);
        Check.due("the pit", x.count(9), 0);
        Check.due("fillings", x.count(11), 0);
        Check.due("the book", x.book(0, 0), ClawCranes.NO_SUCH);
    }

    private static void previousValue() {
        Check.sentence("Promise 2", "Returns the previous value");
        ClawCranes x = new ClawCranes();
        for (int setting = 0; setting < 6; setting++) {
            Check.due("set " + setting, x.set(setting, 5), FIRST[setting]);
            Check.due("set it again", x.set(setting, 6), 5);
            Check.due("set it to what it is", x.set(setting, 6), 6);
        }
        Check.due("a 0 is told as well", x.set(ClawCranes.LACK, 0), 6);
        Check.due("a 0 is told as well", x.set(ClawCranes.LACK, 1), 0);
    }

    private static void noSuchSetting() {
        Check.sentence("Promise 2", "BAD_VALUE if there is no such setting, or the value is out of its range");
        ClawCranes x = new ClawCranes();
        for (int setting : new int[] {-1, 6, 7, Integer.MIN_VALUE, Integer.MAX_VALUE}) {
            Check.due("set(" + setting + ", 5)", x.set(setting, 5), ClawCranes.BAD_VALUE);
            Check.due("nor with a bad value", x.set(setting, -1), ClawCranes.BAD_VALUE);
        }
        Check.due("set(0, 1)", x.set(0, 1), 2);
        Check.due("set(5, 1)", x.set(5, 1), 2);
        Check.due("200 is DUE's most, not FULL's", x.set(ClawCranes.FULL, 200), ClawCranes.BAD_VALUE);
        Check.due("99 is FULL's most, not WEAK's", x.set(ClawCranes.WEAK, 99), ClawCranes.BAD_VALUE);
        Check.due("0 is LACK's least, not COIN's", x.set(ClawCranes.COIN, 0), ClawCranes.BAD_VALUE);
    }
}
