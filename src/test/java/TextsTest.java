/** Promises 18 to 21: put, wipe, fault, carryOut. */
public final class TextsTest {
    public static void main(String[] args) {
        put();
        putTooMany();
        wipe();
        faults();
        carryOut();
        carryOutStops();
        carryOutBadText();
        carryOutIsOneChange();
        carryOutLongest();
        Check.end();
    }

    private static void put() {
        ClawCranes x = new ClawCranes();
        Check.due("put(0)", x.put(0), ClawCranes.BAD_VALUE);
        Check.due("put(32)", x.put(32), ClawCranes.BAD_VALUE);
        Check.due("put(33)", x.put(33), 1);
        Check.due("put(126)", x.put(126), 2);
        Check.due("put(127)", x.put(127), ClawCranes.BAD_VALUE);
        Check.due("put(-1)", x.put(-1), ClawCranes.BAD_VALUE);
        Check.due("a bad code among good ones", x.put(Check.number("ab c")), ClawCranes.BAD_VALUE);
        Check.due("a bad code at the end", x.put(Check.number("abc ")), ClawCranes.BAD_VALUE);
        Check.due("a bad code ahead", x.put(Check.number(" abc")), ClawCranes.BAD_VALUE);
        Check.due("a bad code of eight", x.put(Check.number("abcdefg") << 8 | 200), ClawCranes.BAD_VALUE);
        Check.due("a bad eighth code", x.put(200L << 56 | Check.number("abcdefg")), ClawCranes.BAD_VALUE);
        Check.due("a 0 last", x.put(Check.number("ab") << 8), ClawCranes.BAD_VALUE);
        Check.due("a 0 between", x.put(Check.number("ab") << 16 | 'c'), ClawCranes.BAD_VALUE);
        Check.due("a bit above a 0", x.put(1L << 63 | 'c'), ClawCranes.BAD_VALUE);
        Check.due("length", x.count(18), 2);
        Check.due("eight", x.put(Check.number("abcdefgh")), 10);
        Check.due("no change", x.count(19), 0);
    }

    private static void putTooMany() {
        ClawCranes x = new ClawCranes();
        for (int i = 1; i <= 9; i++) {
            Check.due("put", x.put(Check.number("c1;c1;c1")), 8 * i);
        }
        x.put(Check.number("~~~"));
        Check.due("75 + 6", x.put(Check.number("abcdef")), ClawCranes.TOO_MANY);
        Check.due("a bad code first", x.put(Check.number("abcde f")), ClawCranes.BAD_VALUE);
        Check.due("75 + 5", x.put(Check.number("abcde")), 80);
        Check.due("80 + 1", x.put('a'), ClawCranes.TOO_MANY);
        Check.due("length", x.count(18), 80);
    }

    private static void wipe() {
        ClawCranes x = new ClawCranes();
        Check.due("wipe()", x.wipe(), 0);
        Check.type(x, "p3/4;c");
        Check.due("wipe()", x.wipe(), 6);
        Check.due("length", x.count(18), 0);
        Check.due("wipe()", x.wipe(), 0);
        Check.type(x, "c1");
        Check.due("what was wiped is gone", x.fault(), ClawCranes.NONE);
        Check.due("no change", x.count(19), 0);
    }

    private static void fault(String text, int due) {
        ClawCranes x = new ClawCranes();
        Check.type(x, text);
        Check.due("fault of " + text, x.fault(), due);
        Check.due("again", x.fault(), due);
        Check.due("it stays", x.count(18), text.length());
    }

    private static void faults() {
        String[] good = {"c0", "c9", "c10", "c99", "p0", "p9", "p0/0", "p9/9", "np0=0", "nb99=99", "nx5=10", "a0", "a9",
            "c1;c2", "p1;p2/3;a4;nx1=2;c0"};
        for (String text : good) {
            fault(text, ClawCranes.NONE);
        }
        String[] shortOnes = {"", "c", "p", "p1/", "n", "np", "nb1", "nb12", "nx12=", "a", "c1;", "p1;", "a1;a",
            "nx12=3;"};
        for (String text : shortOnes) {
            fault(text, text.length());
        }
        String[] faulty = {"!x", "!1", "!;", "!C1", "c!x", "c!;", "c!-1", "c1!x", "c1!,", "c0!0", "c0!9", "c10!0", "c99!9",
            "p!/", "p!x", "p1!2", "p1!x", "p1/!x", "p1/!/", "p1/2!3", "p1/2!/", "n!c", "n!1", "np!=", "np!x", "np1!;",
            "np10!0", "np0!1", "np12!3", "np1=!=", "np1=!x", "np1=0!1", "np1=99!0", "np1=2!=",
            "a!x", "a1!2", "a1!/", "c1;!;", "c1;!1", "c1;!x", "c1!c1", "c1;c1!c", "p1;p2/3;a4!5", "a1;c!a1"};
        for (String text : faulty) {
            int due = text.indexOf('!');
            fault(text.substring(0, due) + text.substring(due + 1), due);
        }
    }

    private static void carryOut() {
        ClawCranes x = new ClawCranes();
        Check.type(x, "np10=5;nb20=50;nx1=3;c50;a2;a7;p2;p7/2");
        Check.due("carryOut()", x.carryOut(), 8);
        Check.due("the pad is empty", x.count(18), 0);
        Check.due("plush", x.of(0, 0), 0);
        Check.due("its weight", x.of(0, 1), 10);
        Check.due("its value", x.of(0, 2), 5);
        Check.due("ball", x.of(1, 0), 1);
        Check.due("box", x.of(2, 0), 2);
        Check.due("won", x.of(0, 3), 2);
        Check.due("slipped", x.of(1, 5), 1);
        Check.due("at column 7", x.book(0, 1), 7);
        Check.due("filled up after the first play", x.of(2, 4), 0);
        Check.due("credit", x.count(0), 46);
        Check.type(x, "p0/4;p0/3");
        Check.due("carryOut()", x.carryOut(), 2);
        Check.due("the aim counts: a slip, then a win", x.of(2, 5), 2);
        Check.due("won", x.of(2, 3), 2);
        Check.type(x, "p0");
        Check.due("carryOut()", x.carryOut(), 1);
        Check.due("nothing gripped", x.book(0, 0), 0);
    }

    private static void stops(String text, int due) {
        ClawCranes x = new ClawCranes();
        Check.type(x, text);
        Check.due("carryOut() of " + text, x.carryOut(), due);
        Check.due("the pad is empty", x.count(18), 0);
        Check.due("a change", x.count(19), 1);
        Check.due("credit after " + text, x.count(0), due > 0 ? 5 : 0);
    }

    private static void carryOutStops() {
        stops("c0;c5", 0);
        stops("c5;c0;c6", 1);
        stops("p0;c5", 0);
        stops("c5;p8;c1", 1);
        stops("c5;p0/5;c1", 1);
        stops("c5;a0;c1", 1);
        stops("c5;a8;c1", 1);
        stops("c5;np0=1;c1", 1);
        stops("c5;np61=1;c1", 1);
        stops("c5;np60=0;c1", 1);
        stops("c5;np60=99;a9;c1", 2);
    }

    private static void carryOutBadText() {
        ClawCranes x = new ClawCranes();
        Check.due("empty", x.carryOut(), ClawCranes.BAD_TEXT);
        Check.type(x, "c5;p");
        Check.due("too short", x.carryOut(), ClawCranes.BAD_TEXT);
        Check.due("it stays", x.count(18), 4);
        Check.due("nothing carried out", x.count(0), 0);
        Check.due("nothing recorded", x.count(19), 0);
        Check.type(x, "0");
        Check.due("made good", x.carryOut(), 2);
    }

    private static void carryOutIsOneChange() {
        ClawCranes x = new ClawCranes();
        x.coins(3);
        Check.type(x, "c5;c6;c7;c8;c9;c1;c2;c3");
        Check.due("carryOut()", x.carryOut(), 8);
        Check.due("two changes", x.count(19), 2);
        Check.due("undo()", x.undo(), 1);
        Check.due("all undone", x.count(0), 3);
        Check.due("the pad does not come back", x.count(18), 0);
        Check.type(x, "p9");
        Check.due("none is carried out", x.carryOut(), 0);
        Check.due("a change all the same", x.count(19), 2);
    }

    private static void carryOutLongest() {
        ClawCranes x = new ClawCranes();
        StringBuilder text = new StringBuilder("c80");
        while (text.length() < 80) {
            text.append(text.length() == 3 ? ";a0" : ";p0");
        }
        x.prize(0, 60, 1);
        Check.type(x, text.substring(0, 78));
        Check.due("26 orders", x.carryOut(), 26);
        x = new ClawCranes();
        Check.type(x, text.substring(0, 75) + ";p0/0");
        Check.due("80 characters", x.count(18), 80);
        Check.due("a0 is not possible", x.carryOut(), 1);
    }
}
