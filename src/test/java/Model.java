import java.util.ArrayDeque;
import java.util.ArrayList;
import java.util.Arrays;
import java.util.Comparator;
import java.util.List;
import java.util.regex.Matcher;
import java.util.regex.Pattern;

/** The document told a second time, with the Java library and without a thought of cost. */
final class Model {
    private static final int NO_SUCH = -1, BAD_VALUE = -2, BAD_TEXT = -3, TOO_MANY = -4, NOT_POSSIBLE = -5, NONE = -6;
    private static final int[][] RANGES = {{1, 9}, {1, 200}, {1, 60}, {1, 99}, {0, 9}, {0, 8}};
    private static final String NUMBER = "(0|[1-9][0-9]?)";
    private static final String ORDER =
            "(c" + NUMBER + "|p[0-9](/[0-9])?|n[pbx]" + NUMBER + "=" + NUMBER + "|a[0-9])";
    private static final Pattern TEXT = Pattern.compile(ORDER + "(;" + ORDER + ")*");

    private static final class Prize {
        int number, kind, weight, value, grips, where;

        Prize copy() {
            Prize other = new Prize();
            other.number = number;
            other.kind = kind;
            other.weight = weight;
            other.value = value;
            other.grips = grips;
            other.where = where;
            return other;
        }
    }

    private static final class State {
        int[] settings = {2, 20, 12, 45, 3, 2};
        List<Prize> prizes = new ArrayList<>();
        List<List<Integer>> columns = new ArrayList<>();
        List<int[]> book = new ArrayList<>();
        int credit, since, paid, plays, fullPlays, slips, fillings;

        State() {
            for (int i = 0; i < 8; i++) {
                columns.add(new ArrayList<>());
            }
        }

        State copy() {
            State other = new State();
            other.settings = settings.clone();
            for (Prize prize : prizes) {
                other.prizes.add(prize.copy());
            }
            for (int i = 0; i < 8; i++) {
                other.columns.get(i).addAll(columns.get(i));
            }
            other.book.addAll(book);
            other.credit = credit;
            other.since = since;
            other.paid = paid;
            other.plays = plays;
            other.fullPlays = fullPlays;
            other.slips = slips;
            other.fillings = fillings;
            return other;
        }
    }

    private State now = new State();
    private final ArrayDeque<State> history = new ArrayDeque<>();
    private final State[] slots = new State[2];
    private String pad = "";
    private boolean inText = false;

    private void record() {
        if (!inText) {
            history.push(now.copy());
            if (history.size() > 6) {
                history.removeLast();
            }
        }
    }

    int set(int setting, int value) {
        if (setting < 0 || setting > 5 || value < RANGES[setting][0] || value > RANGES[setting][1]) {
            return BAD_VALUE;
        }
        record();
        int previous = now.settings[setting];
        now.settings[setting] = value;
        return previous;
    }

    int prize(int kind, int weight, int value) {
        if (kind < 0 || kind > 2 || weight < 1 || weight > 60 || value < 1 || value > 99) {
            return BAD_VALUE;
        }
        if (now.prizes.size() == 24) {
            return TOO_MANY;
        }
        record();
        Prize prize = new Prize();
        prize.number = now.prizes.size();
        prize.kind = kind;
        prize.weight = weight;
        prize.value = value;
        now.prizes.add(prize);
        return prize.number;
    }

    private Prize firstOfStore() {
        return now.prizes.stream().filter(p -> p.where == 0).findFirst().orElse(null);
    }

    int add(int column) {
        if (column < 0 || column > 7) {
            return NO_SUCH;
        }
        if (firstOfStore() == null) {
            return NOT_POSSIBLE;
        }
        if (now.columns.get(column).size() == 4) {
            return TOO_MANY;
        }
        record();
        Prize prize = firstOfStore();
        prize.where = 1;
        now.columns.get(column).add(prize.number);
        return prize.number;
    }

    int coins(int many) {
        if (many < 1 || many > 99) {
            return BAD_VALUE;
        }
        if (now.credit + many > 999) {
            return TOO_MANY;
        }
        record();
        now.credit += many;
        return now.credit;
    }

    int play(int column, int aim) {
        if (column < 0 || column > 7) {
            return NO_SUCH;
        }
        if (aim < 0 || aim > 4) {
            return BAD_VALUE;
        }
        if (now.credit < now.settings[0]) {
            return NOT_POSSIBLE;
        }
        record();
        return doPlay(column, aim) % 100;
    }

    /** As play(), but 102 if it rolls. */
    private int doPlay(int column, int aim) {
        now.credit -= now.settings[0];
        now.since += now.settings[0];
        now.paid += now.settings[0];
        now.plays++;
        boolean full = now.since >= now.settings[1];
        if (full) {
            now.fullPlays++;
        }
        int grip = (full ? now.settings[3] : now.settings[2]) - aim * now.settings[4];
        List<Integer> row = now.columns.get(column);
        int answer;
        if (row.isEmpty()) {
            write(0, column, NONE, full);
            answer = 0;
        } else {
            Prize prize = now.prizes.get(row.get(row.size() - 1));
            prize.grips++;
            if (grip >= load(column, aim)) {
                row.remove(row.size() - 1);
                prize.where = 2;
                now.since = 0;
                write(2, column, prize.number, full);
                answer = 10 + prize.number;
            } else {
                now.slips++;
                write(1, column, prize.number, full);
                answer = prize.kind == 1 && roll(column) ? 101 : 1;
            }
        }
        fillUp();
        return answer;
    }

    private boolean roll(int column) {
        List<Integer> row = now.columns.get(column);
        List<Integer> target = null;
        for (int next = column - 1; next <= column + 1; next += 2) {
            if (next >= 0 && next <= 7 && now.columns.get(next).size() + 2 <= row.size()
                    && (target == null || now.columns.get(next).size() < target.size())) {
                target = now.columns.get(next);
            }
        }
        if (target == null) {
            return false;
        }
        target.add(row.remove(row.size() - 1));
        return true;
    }

    private void fillUp() {
        int came = 0;
        while (now.columns.stream().mapToInt(List::size).sum() < now.settings[5] && firstOfStore() != null) {
            List<Integer> lowest = now.columns.stream().min(Comparator.comparingInt(List::size)).get();
            Prize prize = firstOfStore();
            prize.where = 1;
            lowest.add(prize.number);
            came++;
        }
        if (came > 0) {
            now.fillings++;
            write(3, NONE, came, false);
        }
    }

    private void write(int what, int column, int prize, boolean full) {
        now.book.add(0, new int[] {what, column, prize, full ? 1 : 0});
        if (now.book.size() > 10) {
            now.book.remove(10);
        }
    }

    int of(int number, int what) {
        if (number < 0 || number >= now.prizes.size()) {
            return NO_SUCH;
        }
        if (what < 0 || what > 5) {
            return BAD_VALUE;
        }
        Prize prize = now.prizes.get(number);
        int spot = NONE;
        for (int column = 0; column < 8; column++) {
            int height = now.columns.get(column).indexOf(number);
            spot = height >= 0 ? 10 * column + height : spot;
        }
        return new int[] {prize.kind, prize.weight, prize.value, prize.where, spot, prize.grips}[what];
    }

    int at(int column, int height) {
        if (column < 0 || column > 7) {
            return NO_SUCH;
        }
        List<Integer> row = now.columns.get(column);
        return height < 0 || height >= row.size() ? NONE : row.get(height);
    }

    int book(int rank, int what) {
        if (rank < 0 || rank >= now.book.size()) {
            return NO_SUCH;
        }
        return what < 0 || what > 3 ? BAD_VALUE : now.book.get(rank)[what];
    }

    int byValue(int rank) {
        List<Prize> sorted = new ArrayList<>(now.prizes);
        sorted.removeIf(p -> p.where != 1);
        sorted.sort(Comparator.<Prize>comparingInt(p -> -p.value).thenComparingInt(p -> p.weight)
                .thenComparingInt(p -> p.number));
        return rank < 0 || rank >= sorted.size() ? NO_SUCH : sorted.get(rank).number;
    }

    int lighter(int weight) {
        return weight < 0 ? BAD_VALUE
                : (int) now.prizes.stream().filter(p -> p.where == 1 && p.weight <= weight).count();
    }

    private int setIn(int where) {
        return now.prizes.stream().filter(p -> p.where == where).mapToInt(p -> 1 << p.number).sum();
    }

    int count(int what) {
        if (what < 0 || what > 19) {
            return BAD_VALUE;
        }
        int empty = 0;
        for (int column = 0; column < 8; column++) {
            empty += now.columns.get(column).isEmpty() ? 1 << column : 0;
        }
        int won = (int) now.prizes.stream().filter(p -> p.where == 2).count();
        int value = now.prizes.stream().filter(p -> p.where == 2).mapToInt(p -> p.value).sum();
        int[] s = now.settings;
        return new int[] {now.credit, now.since, now.paid, now.plays, now.fullPlays, won, now.slips, value, setIn(0),
            setIn(1), empty, now.fillings, s[0], s[1], s[2], s[3], s[4], s[5], pad.length(), history.size()}[what];
    }

    int ifPlayed(int column, int aim) {
        if (column < 0 || column > 7) {
            return NO_SUCH;
        }
        if (aim < 0 || aim > 4) {
            return BAD_VALUE;
        }
        State before = now;
        now = now.copy();
        int answer = doPlay(column, aim);
        now = before;
        return answer == 101 ? 2 : answer;
    }

    int load(int column, int aim) {
        if (column < 0 || column > 7) {
            return NO_SUCH;
        }
        if (aim < 0 || aim > 4) {
            return BAD_VALUE;
        }
        List<Integer> row = now.columns.get(column);
        if (row.isEmpty()) {
            return NONE;
        }
        Prize prize = now.prizes.get(row.get(row.size() - 1));
        return prize.weight + (prize.kind == 1 && aim > 0 ? 5 : 0) + (prize.kind == 2 ? 2 * (row.size() - 1) : 0);
    }

    int untilFull() {
        int away = 0;
        while (now.since + (away + 1) * now.settings[0] < now.settings[1]) {
            away++;
        }
        return away;
    }

    int bestColumn() {
        int best = NONE;
        for (int column = 0; column < 8; column++) {
            int prize = ifPlayed(column, 0) - 10;
            if (prize >= 0 && (best < 0 || now.prizes.get(prize).value
                    > now.prizes.get(ifPlayed(best, 0) - 10).value)) {
                best = column;
            }
        }
        return best;
    }

    int costs(int column) {
        if (column < 0 || column > 7) {
            return NO_SUCH;
        }
        List<Integer> row = now.columns.get(column);
        if (row.isEmpty()) {
            return NOT_POSSIBLE;
        }
        int prize = row.get(row.size() - 1);
        State before = now;
        now = now.copy();
        int answer = NONE;
        for (int played = 1; played <= 300 && answer == NONE; played++) {
            doPlay(column, 0);
            if (now.prizes.get(prize).where == 2) {
                answer = played * now.settings[0];
            } else if (!now.columns.get(column).contains(prize)) {
                break;
            }
        }
        now = before;
        return answer;
    }

    int put(long characters) {
        StringBuilder text = new StringBuilder();
        boolean ended = false;
        for (int i = 0; i < 8; i++) {
            int code = (int) (characters >> 8 * i & 255);
            if (code == 0) {
                ended = true;
            } else if (ended || code < 33 || code > 126) {
                return BAD_VALUE;
            } else {
                text.insert(0, (char) code);
            }
        }
        if (text.length() == 0) {
            return BAD_VALUE;
        }
        if (pad.length() + text.length() > 80) {
            return TOO_MANY;
        }
        pad += text;
        return pad.length();
    }

    int wipe() {
        int length = pad.length();
        pad = "";
        return length;
    }

    int fault() {
        if (TEXT.matcher(pad).matches()) {
            return NONE;
        }
        for (int length = 1; length <= pad.length(); length++) {
            Matcher matcher = TEXT.matcher(pad.substring(0, length));
            if (!matcher.matches() && !matcher.hitEnd()) {
                return length - 1;
            }
        }
        return pad.length();
    }

    int carryOut() {
        if (fault() != NONE) {
            return BAD_TEXT;
        }
        record();
        inText = true;
        int done = 0;
        for (String order : pad.split(";")) {
            if (carry(order) < 0) {
                break;
            }
            done++;
        }
        inText = false;
        pad = "";
        return done;
    }

    private int carry(String order) {
        int[] numbers = Arrays.stream(order.replaceAll("[a-z]", "").split("[/=]"))
                .mapToInt(Integer::parseInt).toArray();
        switch (order.charAt(0)) {
            case 'c': return coins(numbers[0]);
            case 'p': return play(numbers[0], numbers.length > 1 ? numbers[1] : 0);
            case 'n': return prize("pbx".indexOf(order.charAt(1)), numbers[0], numbers[1]);
            default: return add(numbers[0]);
        }
    }

    int undo() {
        if (history.isEmpty()) {
            return NOT_POSSIBLE;
        }
        now = history.pop();
        return history.size();
    }

    int save(int slot) {
        if (slot < 0 || slot > 1) {
            return BAD_VALUE;
        }
        slots[slot] = now.copy();
        return now.prizes.size();
    }

    int restore(int slot) {
        if (slot < 0 || slot > 1) {
            return BAD_VALUE;
        }
        if (slots[slot] == null) {
            return NOT_POSSIBLE;
        }
        record();
        now = slots[slot].copy();
        return now.prizes.size();
    }
}
