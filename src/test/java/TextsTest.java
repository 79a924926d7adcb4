/** Terms: Texts; promises 18 to 21: put, wipe, fault, carryOut. */
public final class TextsTest {
    public static void main(String[] args) {
        padOf80();
        putAppends();
        putOneToEight();
        putNumbers();
        putCodes();
        putBitsAboveZero();
        putTooMany();
        wipe();
        goodTexts();
        whatMayFollow();
        numbersUpTo99();
        endsTooEarly();
        firstFault();
        faultOfThePad();
        carriesOutCoins();
        carriesOutPlays();
        carriesOutPrizes();
        carriesOutAdding();
        upToTheFirstError();
        howMany();
        badTextStays();
        Check.end();
    }

    private static void padOf80() {
        Check.sentence("Terms", "The pad is a text of at most 80 characters, a row of orders");
        ClawCranes x = Cranes.withPad("c1;c1;c1;c1;c1;c1;c1;c1;c1;c1;c1;c1;c1;c1;c1;c1;c1;c1;c1;c1;c1;c1;c1;c1;c1;c1;");
        Check.due("78 characters", x.count(18), 78);
        Check.due("79", x.put('c'), 79);
        Check.due("80", x.put('1'), 80);
        Check.due("a text of 80", x.fault(), ClawCranes.NONE);
        Check.due("81", x.put('2'), ClawCranes.TOO_MANY);
        Check.due("it is carried out to its end", x.carryOut(), 27);
        Check.due("27 coins", x.count(0), 27);
    }

    private static void putAppends() {
        Check.sentence("Promise 18", "Appends characters to the pad", "Returns the length of the pad then");
        ClawCranes x = new ClawCranes();
        Check.due("c1", x.put(Cranes.number("c1")), 2);
        Check.due("2;", x.put(Cranes.number("2;")), 4);
        Check.due("c9;p0/0", x.put(Cranes.number("c9;p0/0")), 11);
        Check.due("orders", x.carryOut(), 3);
        Check.due("c12, c9 and a play", x.count(0), 19);
        Check.due("from the front again", x.put('c'), 1);
    }

    private static void putOneToEight() {
        Check.sentence("Promise 18", "`characters`: 1 to 8 characters");
        String text = "c1;c2;c3";
        for (int length = 1; length <= 8; length++) {
            ClawCranes x = new ClawCranes();
            Check.due(length + " characters", x.put(Cranes.number(text.substring(0, length))), length);
        }
        Check.due("no character", new ClawCranes().put(0), ClawCranes.BAD_VALUE);
    }

    private static void putNumbers() {
        Check.sentence("Promise 18",
                "its lowest 8 bits are the last character, the next 8 bits the one before, and so on");
        ClawCranes x = new ClawCranes();
        x.put('c' << 16 | '4' << 8 | '2');
        x.carryOut();
        Check.due("c42", x.count(0), 42);
        Check.due("eight", x.put(Cranes.number("c10;c5;c")), 8);
        Check.due("one", x.put('3'), 9);
        x.carryOut();
        Check.due("c10, c5 and c3", x.count(0), 60);
    }

    private static void putOf(long characters, int due) {
        ClawCranes x = Cranes.withPad("c");
        Check.due("put(" + characters + ")", x.put(characters), due);
        Check.due("the length of the pad", x.count(18), due > 0 ? due : 1);
    }

    private static void putCodes() {
        Check.sentence("Promise 18", "BAD_VALUE if there is no character, a code is not 33 to 126, "
                + "or a bit above 8 bits that are 0 is not 0");
        for (long code = 0; code <= 255; code++) {
            boolean right = code >= 33 && code <= 126;
            putOf(code, right ? 2 : ClawCranes.BAD_VALUE);
            putOf(code << 56 | Cranes.number("abcdefg"), right ? 9 : code == 0 ? 8 : ClawCranes.BAD_VALUE);
            putOf(Cranes.number("abcdefg") << 8 | code, right ? 9 : ClawCranes.BAD_VALUE);
            putOf((long) 'a' << 16 | code << 8 | 'b', right ? 4 : ClawCranes.BAD_VALUE);
        }
        putOf(-1, ClawCranes.BAD_VALUE);
        putOf(Long.MIN_VALUE, ClawCranes.BAD_VALUE);
        putOf(Long.MAX_VALUE, ClawCranes.BAD_VALUE);
    }

    private static void putBitsAboveZero() {
        Check.sentence("Promise 18", "8 bits that are 0 mean that there are no more characters, "
                + "and everything above them has to be 0, too");
        for (int bit = 16; bit < 64; bit++) {
            putOf(1L << bit | 'c', ClawCranes.BAD_VALUE);
        }
        for (int zero = 1; zero < 7; zero++) {
            putOf((long) 'c' << 8 * (zero + 1) | Cranes.number("abcdef".substring(0, zero)), ClawCranes.BAD_VALUE);
        }
        putOf(1L << 63 | Cranes.number("abcdef"), ClawCranes.BAD_VALUE);
        putOf(Cranes.number("abcdefg") << 8, ClawCranes.BAD_VALUE);
        putOf((long) 'a' << 56, ClawCranes.BAD_VALUE);
        putOf(Cranes.number("abcdefg"), 8);
    }

    private static void putTooMany() {
        Check.sentence("Promise 18", "TOO_MANY if the pad would be longer than 80");
        for (int more = 1; more <= 8; more++) {
            ClawCranes x = new ClawCranes();
            for (int i = 0; i < 80 - more; i++) {
                x.put('c');
            }
            String text = "abcdefgh".substring(0, more);
            if (more < 8) {
                Check.due("1 too many", x.put(Cranes.number(text + "i")), ClawCranes.TOO_MANY);
                Check.due("none was appended", x.count(18), 80 - more);
            }
            Check.due("as many as there is room for", x.put(Cranes.number(text)), 80);
            Check.due("one to 80", x.put('c'), ClawCranes.TOO_MANY);
            Check.due("eight to 80", x.put(Cranes.number("abcdefgh")), ClawCranes.TOO_MANY);
            Check.due("the pad", x.count(18), 80);
        }
    }

    private static void wipe() {
        Check.sentence("Promise 19", "Empties the pad, and returns the length that it had");
        ClawCranes x = new ClawCranes();
        Check.due("an empty pad", x.wipe(), 0);
        x.put('c');
        Check.due("one character", x.wipe(), 1);
        Check.due("the length", x.count(18), 0);
        Check.due("an empty pad", x.wipe(), 0);
        for (int i = 0; i < 10; i++) {
            Cranes.type(x, "~~~~~~~~");
        }
        Check.due("a full pad", x.wipe(), 80);
        Cranes.type(x, "c1");
        Check.due("nothing of it is left", x.carryOut(), 1);
    }

    private static final String ORDERS = "order = \"c\" number | \"p\" digit [ \"/\" digit ] | "
            + "\"n\" kind number \"=\" number | \"a\" digit";

    private static void fault(String text, int due) {
        ClawCranes x = Cranes.withPad(text);
        Check.due("fault of " + text, x.fault(), due);
        Check.due("again", x.fault(), due);
        Check.due("the length of the pad", x.count(18), text.length());
    }

    private static void goodTexts() {
        Check.sentence("Terms", ORDERS);
        String[] orders = {"c0", "c9", "c10", "c99", "p0", "p9", "p0/0", "p9/9", "np0=0", "nb99=99", "nx5=10", "a0",
            "a9"};
        for (String order : orders) {
            fault(order, ClawCranes.NONE);
            for (String next : orders) {
                fault(order + ";" + next, ClawCranes.NONE);
            }
        }
        fault("c0;c1;c2;c3;c4;c5;c6;c7;c8;c9;a0;a1;a2;a3;a4;a5;a6;a7;a8;a9;p0;p1;p2;p3;p4;p5;p6", ClawCranes.NONE);
    }

    /** After some first characters, which ones can stand next: every other one is the fault. */
    private static void follows(String before, String next) {
        for (char sign = 33; sign <= 126; sign++) {
            if (next.indexOf(sign) < 0) {
                fault(before + sign, before.length());
                fault(before + sign + "c1;", before.length());
            } else {
                int fault = Cranes.withPad(before + sign).fault();
                Check.holds(before + sign + " may stand", fault == ClawCranes.NONE || fault == before.length() + 1);
            }
        }
    }

    private static void whatMayFollow() {
        Check.sentence("Terms", "The fault is the index of the first character that cannot stand at its place "
                + "when the text is read from left to right");
        String digits = "0123456789";
        String[] orders = {"", "c1;", "p1/2;", "nx1=2;", "a3;"};
        for (String before : orders) {
            follows(before, "cpna");
            follows(before + "n", "pbx");
        }
        String[] needDigit = {"c", "p", "p7/", "np", "nb", "nx", "np1=", "nx99=", "a", "c1;c", "p1;p1/"};
        for (String before : needDigit) {
            follows(before, digits);
        }
        String[] needSemicolon = {"c0", "c10", "c99", "p0/0", "p9/9", "np1=0", "np1=10", "nx0=99", "a0", "a9", "a1;c0"};
        for (String before : needSemicolon) {
            follows(before, ";");
        }
        for (String before : new String[] {"c1", "c9", "np1=1", "nb0=9", "a1;c1"}) {
            follows(before, digits + ";");
        }
        follows("p0", "/;");
        follows("p9", "/;");
        follows("np0", "=");
        follows("nb10", "=");
        follows("nx99", "=");
        follows("np1", digits + "=");
        follows("nx9", digits + "=");
    }

    private static void numbersUpTo99() {
        Check.sentence("Terms", "A digit is 0 to 9, a number 0 to 99, without leading zeros");
        for (int number = 0; number <= 120; number++) {
            boolean tooLarge = number > 99;
            fault("c" + number, tooLarge ? 3 : ClawCranes.NONE);
            fault("nb" + number + "=7", tooLarge ? 4 : ClawCranes.NONE);
            fault("nb7=" + number, tooLarge ? 6 : ClawCranes.NONE);
            fault("p" + number, number > 9 ? 2 : ClawCranes.NONE);
            fault("p7/" + number, number > 9 ? 4 : ClawCranes.NONE);
            fault("a" + number, number > 9 ? 2 : ClawCranes.NONE);
        }
        for (int digit = 0; digit <= 9; digit++) {
            fault("c0" + digit, 2);
            fault("np0" + digit + "=1", 3);
            fault("np1=0" + digit, 5);
        }
        Check.sentence("Terms", "(also of a digit by which a number would be above 99)");
        fault("c100", 3);
        fault("c990", 3);
        fault("c999;c1", 3);
        fault("nx100=1", 4);
        fault("nx1=100", 6);
    }

    private static void endsTooEarly() {
        Check.sentence("Terms", "if there is none and the text ends too early (also if it is empty), "
                + "it is the length of the text");
        String[] texts = {"", "c", "p", "p1/", "n", "np", "nb1", "nb12", "nx0", "nx12=", "a", "c1;", "p1;", "p1/2;",
            "a1;a", "nx12=3;", "c1;c2;c3;"};
        for (String text : texts) {
            fault(text, text.length());
        }
        String full = "a1;a1;a1;a1;a1;a1;a1;a1;a1;a1;a1;a1;a1;a1;a1;a1;a1;a1;a1;a1;a1;a1;a1;a1;a1;a1;";
        fault(full + "p", 79);
        fault(full + "a;", 79);
        fault("c10;" + full.substring(0, 75) + "p", 80);
    }

    private static void firstFault() {
        Check.sentence("Terms", "The fault is the index of the first character that cannot stand at its place "
                + "when the text is read from left to right");
        fault("cc", 1);
        fault("cc;cc", 1);
        fault("c1;;", 3);
        fault("c1;p;p", 4);
        fault("c1;p1/;", 6);
        fault("c1c", 2);
        fault("p1/2/3", 4);
        fault("np1;", 3);
        fault("np1=2=3", 5);
        fault("n1=2", 1);
        fault("C1", 0);
        fault(";c1", 0);
        fault("1", 0);
        fault("c-1", 1);
        fault("c1,c2", 2);
        fault("x", 0);
        fault("b", 0);
    }

    private static void faultOfThePad() {
        Check.sentence("Promise 20", "Returns the fault of the pad, NONE if there is none");
        ClawCranes x = new ClawCranes();
        Check.due("an empty pad", x.fault(), 0);
        x.put('c');
        Check.due("c", x.fault(), 1);
        x.put('1');
        Check.due("c1", x.fault(), ClawCranes.NONE);
        x.put('0');
        Check.due("c10", x.fault(), ClawCranes.NONE);
        x.put('0');
        Check.due("c100", x.fault(), 3);
        x.put(';');
        Check.due("c100;", x.fault(), 3);
        x.wipe();
        Check.due("wiped", x.fault(), 0);
    }

    private static ClawCranes carriedOut(String text, int due) {
        ClawCranes x = Cranes.withPad(text);
        Check.due("carryOut() of " + text, x.carryOut(), due);
        Check.due("then the pad is empty", x.count(18), 0);
        return x;
    }

    private static void carriesOutCoins() {
        Check.sentence("Terms", "\"c\": coins()");
        Check.due("c1", carriedOut("c1", 1).count(0), 1);
        Check.due("c99", carriedOut("c99", 1).count(0), 99);
        Check.due("c0", carriedOut("c0", 0).count(0), 0);
        Check.due("to 999", carriedOut("c99;c99;c99;c99;c99;c99;c99;c99;c99;c99;c9;c1", 11).count(0), 999);
        Check.due("above 999", carriedOut("c99;c99;c99;c99;c99;c99;c99;c99;c99;c99;c10;c1", 10).count(0), 990);
    }

    private static void carriesOutPlays() {
        Check.sentence("Terms", "\"p\": play() at a column, with an aim (0 without)");
        Check.due("at column 7", carriedOut("c9;p7", 2).book(0, 1), 7);
        Check.due("at column 0", carriedOut("c9;p0/4", 2).book(0, 1), 0);
        Check.due("no column 8", carriedOut("c9;p8", 1).count(3), 0);
        Check.due("no column 9", carriedOut("c9;p9/0", 1).count(3), 0);
        Check.due("no aim 5", carriedOut("c9;p0/5", 1).count(3), 0);
        Check.due("no aim 9", carriedOut("c9;p0/9", 1).count(3), 0);
        Check.due("no credit", carriedOut("p0", 0).count(3), 0);
        Check.due("1 less than COIN", carriedOut("c1;p0", 1).count(3), 0);
        Check.due("as much as COIN", carriedOut("c2;p0", 2).count(3), 1);
        Check.due("no aim: 12 lifts 12", carriedOut("c9;np12=1;a0;p0", 4).count(5), 1);
        Check.due("aim 0: 12 lifts 12", carriedOut("c9;np12=1;a0;p0/0", 4).count(5), 1);
        Check.due("aim 1: 9 does not", carriedOut("c9;np12=1;a0;p0/1", 4).count(6), 1);
        Check.due("an aim is that of its own play", carriedOut("c9;np12=1;a0;p0/4;p0", 5).count(5), 1);
    }

    private static void carriesOutPrizes() {
        Check.sentence("Terms", "\"n\": prize() of a kind (plush, ball, box), with weight and value, to the store");
        ClawCranes x = carriedOut("np1=99;nb60=1;nx30=50", 3);
        int[][] due = {{0, 1, 99}, {1, 60, 1}, {2, 30, 50}};
        for (int prize = 0; prize < 3; prize++) {
            for (int what = 0; what < 3; what++) {
                Check.due("of(" + prize + ", " + what + ")", x.of(prize, what), due[prize][what]);
            }
        }
        Check.due("the store", x.count(8), 7);
        Check.due("no weight 0", carriedOut("np0=1", 0).count(8), 0);
        Check.due("no weight 61", carriedOut("np61=1", 0).count(8), 0);
        Check.due("no value 0", carriedOut("np1=0", 0).count(8), 0);
        Check.due("value 99", carriedOut("np60=99", 1).count(8), 1);
        x = new ClawCranes();
        Cranes.store(x, 23, Cranes.PLUSH, 1);
        Cranes.type(x, "np1=1;np1=1");
        Check.due("the 24th one, not the 25th", x.carryOut(), 1);
    }

    private static void carriesOutAdding() {
        Check.sentence("Terms", "\"a\": add() of a prize of the store to a column");
        Check.due("to column 0", carriedOut("np1=1;a0", 2).at(0, 0), 0);
        Check.due("to column 7", carriedOut("np1=1;a7", 2).at(7, 0), 0);
        Check.due("no column 8", carriedOut("np1=1;a8", 1).count(9), 0);
        Check.due("no column 9", carriedOut("np1=1;a9", 1).count(9), 0);
        Check.due("an empty store", carriedOut("np1=1;a0;a0;c1", 2).count(0), 0);
        ClawCranes x = new ClawCranes();
        Cranes.store(x, 5, Cranes.PLUSH, 1);
        Cranes.type(x, "a3;a3;a3;a3;a3;a4");
        Check.due("the fifth one is too many", x.carryOut(), 4);
        Check.due("the last order is not carried out", x.at(4, 0), ClawCranes.NONE);
    }

    private static void upToTheFirstError() {
        Check.sentence("Promise 21", "Carries the orders of the pad out, one after the other, "
                + "up to the first one that returns an error, and empties the pad");
        String[] errors = {"c0", "p8", "p0/5", "a0", "a8", "np0=1", "np1=0", "nb61=1"};
        for (String error : errors) {
            ClawCranes x = carriedOut("c5;" + error + ";c1", 1);
            Check.due("credit: what was ahead of " + error + " was done", x.count(0), 5);
            Check.due("plays", x.count(3), 0);
            Check.due("prizes", x.count(8), 0);
            x = carriedOut(error + ";c1", 0);
            Check.due("credit: nothing was ahead of " + error, x.count(0), 0);
        }
        Check.due("a NONE is no error", carriedOut("c5;p0;c1", 3).count(0), 4);
        ClawCranes x = carriedOut("c20;np12=5;nb20=50;nx1=3;a2;a7;p2;p7/2;p0", 9);
        Check.due("the plush was won", x.of(0, 3), 2);
        Check.due("the ball slipped", x.of(1, 5), 1);
        Check.due("the box came by filling up, and was won", x.of(2, 3), 2);
        Check.due("credit", x.count(0), 14);
    }

    private static void howMany() {
        Check.sentence("Promise 21", "Returns how many orders were carried out");
        StringBuilder text = new StringBuilder();
        for (int many = 1; many <= 27; many++) {
            text.append(many == 1 ? "c1" : ";c1");
            Check.due("coins", carriedOut(text.toString(), many).count(0), many);
        }
    }

    private static void badTextStays() {
        Check.sentence("Promise 21", "BAD_TEXT if the pad has a fault (then it stays)");
        Check.due("an empty pad", new ClawCranes().carryOut(), ClawCranes.BAD_TEXT);
        for (String text : new String[] {"c", "c5;", "c5;x", "c5;c100", "c5;c05", "x;c5"}) {
            ClawCranes x = Cranes.withPad(text);
            Check.due("carryOut() of " + text, x.carryOut(), ClawCranes.BAD_TEXT);
            Check.due("the pad", x.count(18), text.length());
            Check.due("no order was carried out", x.count(0), 0);
        }
        ClawCranes x = Cranes.withPad("c5;p");
        Check.due("p", x.carryOut(), ClawCranes.BAD_TEXT);
        x.put('0');
        Check.due("p0", x.carryOut(), 2);
        Check.due("emptied", x.carryOut(), ClawCranes.BAD_TEXT);
    }
}
