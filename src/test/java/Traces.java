import java.util.ArrayList;
import java.util.List;
import java.util.function.Consumer;

/**
 * All that a crane's answers tell after a run of calls: at once, and also what its history, its slots and its pad hold.
 * Each look is at an object of its own, as an object is promised to be good for 512 calls only.
 */
final class Traces {
    private static final int UNDOS = 7;

    private Traces() { }

    static void alike(String what, Consumer<ClawCranes> run, Consumer<ClawCranes> other) {
        List<String> traces = of(run);
        List<String> others = of(other);
        for (int i = 0; i < traces.size(); i++) {
            boolean same = traces.get(i).equals(others.get(i));
            Check.holds(what + (same ? "" : "\n  " + traces.get(i) + "\n  " + others.get(i)), same);
        }
    }

    private static List<String> of(Consumer<ClawCranes> run) {
        List<String> traces = new ArrayList<>();
        for (int undos = 0; undos <= UNDOS; undos++) {
            ClawCranes x = after(run);
            int answer = 0;
            for (int i = 0; i < undos; i++) {
                answer = x.undo();
            }
            traces.add("undo() " + undos + " times: " + answer + " " + now(x) + padAndHistory(x));
        }
        for (int slot = 0; slot <= 1; slot++) {
            ClawCranes x = after(run);
            traces.add("restore(" + slot + "): " + x.restore(slot) + " " + now(x) + padAndHistory(x));
        }
        ClawCranes x = after(run);
        traces.add("carryOut(): " + x.carryOut() + " " + now(x) + padAndHistory(x));
        return traces;
    }

    private static ClawCranes after(Consumer<ClawCranes> run) {
        ClawCranes x = new ClawCranes();
        run.accept(x);
        return x;
    }

    private static String padAndHistory(ClawCranes x) {
        return "pad " + x.count(18) + " " + x.fault() + " history " + x.count(19);
    }

    /** All that undo() and restore() bring back. */
    static String now(ClawCranes x) {
        StringBuilder told = new StringBuilder();
        told.append("count");
        for (int what = 0; what < 18; what++) {
            told.append(' ').append(x.count(what));
        }
        prizes(x, told);
        pit(x, told);
        told.append("book");
        for (int rank = 0; x.book(rank, 0) >= 0; rank++) {
            for (int what = 0; what < 4; what++) {
                told.append(' ').append(x.book(rank, what));
            }
        }
        return told.append(' ').toString();
    }

    private static void prizes(ClawCranes x, StringBuilder told) {
        told.append(" prizes");
        for (int prize = 0; x.of(prize, 0) >= 0; prize++) {
            for (int what = 0; what < 6; what++) {
                told.append(' ').append(x.of(prize, what));
            }
        }
        told.append(" by value");
        for (int rank = 0; x.byValue(rank) >= 0; rank++) {
            told.append(' ').append(x.byValue(rank));
        }
        told.append(" lighter");
        for (int weight = 0; weight <= 60; weight += 10) {
            told.append(' ').append(x.lighter(weight));
        }
    }

    private static void pit(ClawCranes x, StringBuilder told) {
        told.append(" pit");
        for (int column = 0; column < 8; column++) {
            for (int height = 0; x.at(column, height) >= 0; height++) {
                told.append(' ').append(x.at(column, height));
            }
            told.append(" load ").append(x.load(column, 1));
            told.append(" if ").append(x.ifPlayed(column, 0)).append(' ').append(x.ifPlayed(column, 1));
            told.append(" costs ").append(x.costs(column)).append(',');
        }
        told.append(" full ").append(x.untilFull()).append(" best ").append(x.bestColumn()).append(' ');
    }
}
