/** Cranes as tests begin with them, and what several calls together bring about. */
final class Cranes {
    static final int[] NO_COLUMNS = {-1, 8, 9, Integer.MIN_VALUE, Integer.MAX_VALUE};
    static final int[] NO_AIMS = {-1, 5, Integer.MIN_VALUE, Integer.MAX_VALUE};
    static final int PLUSH = 0, BALL = 1, BOX = 2;

    private Cranes() { }

    static ClawCranes withCredit(int many) {
        ClawCranes x = new ClawCranes();
        pay(x, many);
        return x;
    }

    /** coins() takes at most 99 at once. */
    static void pay(ClawCranes x, int many) {
        for (int rest = many; rest > 0; rest -= 99) {
            x.coins(Math.min(rest, 99));
        }
    }

    static void store(ClawCranes x, int many, int kind, int weight) {
        for (int i = 0; i < many; i++) {
            x.prize(kind, weight, 1);
        }
    }

    /** Columns of prizes of one kind and weight; the pit is not filled up, and the credit is 99. */
    static ClawCranes withColumns(int kind, int weight, int... heights) {
        ClawCranes x = withCredit(99);
        x.set(ClawCranes.LACK, 0);
        for (int column = 0; column < heights.length; column++) {
            store(x, heights[column], kind, weight);
            addTo(x, column, heights[column]);
        }
        return x;
    }

    static void addTo(ClawCranes x, int column, int many) {
        for (int i = 0; i < many; i++) {
            x.add(column);
        }
    }

    static void playAt(ClawCranes x, int column, int many) {
        for (int i = 0; i < many; i++) {
            x.play(column, 0);
        }
    }

    /**
     * Something of everything: prizes of each kind in each place, slips, wins, a ball that rolled, fillings, changed
     * settings, a full grip, a full book, a pad, five states to undo to, and slot 0 saved, but not slot 1.
     */
    static void live(ClawCranes x) {
        int[][] prizes = {{0, 12, 5}, {1, 20, 50}, {2, 8, 30}, {1, 40, 99}, {0, 50, 99}, {2, 30, 7}, {1, 11, 7},
            {0, 60, 1}};
        for (int[] prize : prizes) {
            x.prize(prize[0], prize[1], prize[2]);
        }
        pay(x, 150);
        addTo(x, 0, 3);
        playAt(x, 5, 3);
        x.play(0, 4);
        x.save(0);
        playAt(x, 0, 4);
        x.set(ClawCranes.LACK, 4);
        playAt(x, 3, 4);
        x.set(ClawCranes.SLIP, 2);
        x.set(ClawCranes.DUE, 12);
        x.play(2, 1);
        x.set(ClawCranes.DUE, 30);
        x.add(1);
        type(x, "c5;p1/2;a4");
        x.undo();
        x.undo();
        x.add(1);
    }

    static ClawCranes live() {
        ClawCranes x = new ClawCranes();
        live(x);
        return x;
    }

    static void undoAll(ClawCranes x) {
        for (int left = x.count(19); left > 0; left--) {
            x.undo();
        }
    }

    /** Up to eight characters as the number that put() takes. */
    static long number(String characters) {
        long number = 0;
        for (int i = 0; i < characters.length(); i++) {
            number = number << 8 | characters.charAt(i);
        }
        return number;
    }

    static void type(ClawCranes x, String text) {
        for (int i = 0; i < text.length(); i += 8) {
            x.put(number(text.substring(i, Math.min(i + 8, text.length()))));
        }
    }

    static ClawCranes withPad(String text) {
        ClawCranes x = new ClawCranes();
        type(x, text);
        return x;
    }
}
