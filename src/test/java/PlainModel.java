import java.util.ArrayList;
import java.util.List;

/** The document again, word by word and without regard to speed, to compare the class with. */
final class PlainModel {
    static final String FULL = "W(;W)*".replace("W", "[a-p]=N(,N)*")
            .replace("N", "(0|[1-9][0-9]{0,2}|[1-3][0-9]{3}|40[0-8][0-9]|409[0-5])");
    private static final String[] ENDS = {"", "0", "=0", "a=0"};

    private static final class Cells {
        boolean[][] held = new boolean[18][13];
        int[][] wear = new int[18][13];
        int[] slotOf = new int[16];
        int[] here = new int[16];
        int[] sofar = new int[16];
        int[] moved = new int[16];
        int[] settings = {20, 0};
        int[] counts = new int[5];

        Cells copy() {
            Cells c = new Cells();
            for (int s = 0; s < 18; s++) {
                c.held[s] = held[s].clone();
                c.wear[s] = wear[s].clone();
            }
            c.slotOf = slotOf.clone();
            c.here = here.clone();
            c.sofar = sofar.clone();
            c.moved = moved.clone();
            c.settings = settings.clone();
            c.counts = counts.clone();
            return c;
        }
    }

    private Cells c = new Cells();
    private final List<Cells> saved = new ArrayList<>();
    private String buffer = "";

    PlainModel() {
        for (int w = 0; w < 16; w++) {
            c.slotOf[w] = w;
        }
    }

    private static boolean bit(int number, int i) {
        return (number >> i) % 2 != 0;
    }

    private boolean stuck(int slot, int cell) {
        return c.wear[slot][cell] >= c.settings[0];
    }

    private static boolean[] cellsOf(int number, boolean turned) {
        boolean[] cells = new boolean[13];
        for (int i = 0; i < 12; i++) {
            cells[i] = bit(number, i) != turned;
        }
        cells[12] = turned;
        return cells;
    }

    /** -1 if the way is not open. */
    private int changesBy(int slot, boolean[] cells) {
        int changes = 0;
        for (int i = 0; i < 13; i++) {
            if (cells[i] != c.held[slot][i]) {
                if (stuck(slot, i)) {
                    return -1;
                }
                changes++;
            }
        }
        return changes;
    }

    private boolean[] best(int slot, int number) {
        boolean[] stay = cellsOf(number, c.held[slot][12]);
        boolean[] turn = cellsOf(number, !c.held[slot][12]);
        int byStay = changesBy(slot, stay);
        int byTurn = changesBy(slot, turn);
        if (byStay < 0) {
            return byTurn < 0 ? null : turn;
        }
        return byTurn >= 0 && byTurn < byStay ? turn : stay;
    }

    private boolean free(int slot) {
        for (int s : c.slotOf) {
            if (s == slot) {
                return false;
            }
        }
        return true;
    }

    private int wearOfAll(int slot) {
        int sum = 0;
        for (int w : c.wear[slot]) {
            sum += w;
        }
        return sum;
    }

    private int freeSlot(int number, boolean whatever) {
        int found = -1;
        for (int s = 17; s >= 0; s--) {
            if (free(s) && (whatever || best(s, number) != null)
                    && (found < 0 || wearOfAll(s) <= wearOfAll(found))) {
                found = s;
            }
        }
        return found;
    }

    private boolean hot(int word) {
        return c.settings[1] > 0 && c.here[word] >= c.settings[1];
    }

    private int goal(int word, int number) {
        if (hot(word)) {
            int s = freeSlot(number, false);
            if (s >= 0) {
                return s;
            }
        }
        return best(c.slotOf[word], number) != null ? c.slotOf[word] : freeSlot(number, false);
    }

    private int put(int word, int number) {
        int goal = goal(word, number);
        if (goal < 0) {
            return -1;
        }
        boolean[] way = best(goal, number);
        int before = value(word);
        int changes = 0;
        for (int i = 0; i < 13; i++) {
            if (way[i] != c.held[goal][i]) {
                changes++;
                c.wear[goal][i]++;
            }
        }
        c.held[goal] = way;
        if (goal == c.slotOf[word]) {
            c.here[word]++;
        } else {
            c.slotOf[word] = goal;
            c.here[word] = 0;
            c.moved[word]++;
            c.counts[3]++;
        }
        c.sofar[word]++;
        c.counts[0]++;
        c.counts[1] += changes;
        for (int i = 0; i < 12; i++) {
            c.counts[2] += bit(before, i) != bit(number, i) ? 1 : 0;
        }
        c.counts[4] += way[12] ? 1 : 0;
        return changes;
    }

    private int value(int word) {
        boolean[] cells = c.held[c.slotOf[word]];
        int number = 0;
        for (int i = 0; i < 12; i++) {
            number += cells[i] != cells[12] ? 1 << i : 0;
        }
        return number;
    }

    private void save() {
        saved.add(c.copy());
        if (saved.size() > 6) {
            saved.remove(0);
        }
    }

    private static void index(int value, int bound) {
        if (value < 0 || value >= bound) {
            throw new IndexOutOfBoundsException();
        }
    }

    private static void range(int value, int least, int greatest) {
        if (value < least || value > greatest) {
            throw new IllegalArgumentException();
        }
    }

    int write(int word, int number) {
        index(word, 16);
        range(number, 0, 4095);
        if (goal(word, number) < 0) {
            throw new IllegalStateException();
        }
        save();
        return put(word, number);
    }

    private int turns(int word, int number, int times) {
        for (int i = 0; i < times; i++) {
            if (put(word, i % 2 == 0 ? number : 4095 - number) < 0) {
                return i;
            }
        }
        return times;
    }

    int hammer(int word, int number, int times) {
        index(word, 16);
        range(number, 0, 4095);
        range(times, 1, 500);
        save();
        return turns(word, number, times);
    }

    int exchange(int word, int other) {
        index(word, 16);
        index(other, 16);
        save();
        int s = c.slotOf[word];
        int t = c.slotOf[other];
        c.slotOf[word] = t;
        c.slotOf[other] = s;
        c.here[word] = 0;
        c.here[other] = 0;
        return t;
    }

    int wear(int slot, int cell, int by) {
        index(slot, 18);
        index(cell, 13);
        range(by, 1, 999);
        if (c.wear[slot][cell] + by > 99999) {
            throw new IllegalStateException();
        }
        save();
        c.wear[slot][cell] += by;
        return c.wear[slot][cell];
    }

    int set(int setting, int value) {
        index(setting, 2);
        range(value, setting == 0 ? 1 : 0, setting == 0 ? 999 : 99);
        save();
        int previous = c.settings[setting];
        c.settings[setting] = value;
        return previous;
    }

    int append(int code) {
        range(code, 33, 126);
        if (buffer.length() == 60) {
            throw new IllegalStateException();
        }
        buffer += (char) code;
        return buffer.length();
    }

    int clearBuffer() {
        int length = buffer.length();
        buffer = "";
        return length;
    }

    private static boolean begins(String text) {
        for (String end : ENDS) {
            if ((text + end).matches(FULL)) {
                return true;
            }
        }
        return false;
    }

    int firstError() {
        for (int i = 0; i < buffer.length(); i++) {
            if (!begins(buffer.substring(0, i + 1))) {
                return i;
            }
        }
        return buffer.length();
    }

    int writeAll() {
        if (!buffer.matches(FULL)) {
            throw new IllegalArgumentException();
        }
        save();
        String text = buffer;
        buffer = "";
        int made = 0;
        for (String part : text.split(";")) {
            for (String number : part.substring(2).split(",")) {
                if (put(part.charAt(0) - 'a', Integer.parseInt(number)) < 0) {
                    return made;
                }
                made++;
            }
        }
        return made;
    }

    int undo() {
        if (saved.isEmpty()) {
            throw new IllegalStateException();
        }
        c = saved.remove(saved.size() - 1);
        return saved.size();
    }

    int read(int word) {
        index(word, 16);
        return value(word);
    }

    int word(int word, int what) {
        index(word, 16);
        range(what, 0, 4);
        int[] properties = {c.slotOf[word], c.here[word], c.sofar[word], c.moved[word], hot(word) ? 1 : 0};
        return properties[what];
    }

    int slot(int slot, int what) {
        index(slot, 18);
        range(what, 0, 5);
        int word = -1;
        for (int w = 0; w < 16; w++) {
            word = c.slotOf[w] == slot ? w : word;
        }
        int cells = 0;
        int mask = 0;
        int most = 0;
        for (int i = 0; i < 13; i++) {
            cells += i < 12 && c.held[slot][i] ? 1 << i : 0;
            mask += stuck(slot, i) ? 1 << i : 0;
            most = Math.max(most, c.wear[slot][i]);
        }
        int[] numbers = {word, cells, c.held[slot][12] ? 1 : 0, wearOfAll(slot), mask, most};
        return numbers[what];
    }

    int wearOf(int slot, int cell) {
        index(slot, 18);
        index(cell, 13);
        return c.wear[slot][cell];
    }

    int count(int what) {
        range(what, 0, 9);
        if (what < 5) {
            return c.counts[what];
        }
        if (what == 6) {
            return freeSlot(0, true);
        }
        if (what == 9) {
            return saved.size();
        }
        int sum = 0;
        for (int slot = 0; slot < 18 && what == 5; slot++) {
            sum += Integer.bitCount(slot(slot, 4));
        }
        for (int w = 0; w < 16 && what != 5; w++) {
            sum += what == 8 ? value(w) : word(w, 4);
        }
        return sum;
    }

    int setting(int setting) {
        index(setting, 2);
        return c.settings[setting];
    }

    int cost(int slot, int number) {
        index(slot, 18);
        range(number, 0, 4095);
        boolean[] way = best(slot, number);
        return way == null ? -1 : changesBy(slot, way);
    }

    int ifWritten(int word, int number) {
        index(word, 16);
        range(number, 0, 4095);
        return goal(word, number);
    }

    int costliest(int word) {
        index(word, 16);
        int found = -1;
        int most = -1;
        for (int number = 0; number < 4096; number++) {
            int cost = cost(c.slotOf[word], number);
            if (cost > most) {
                found = number;
                most = cost;
            }
        }
        return found;
    }

    int life(int word, int number) {
        index(word, 16);
        range(number, 0, 4095);
        Cells before = c.copy();
        int made = turns(word, number, 500);
        c = before;
        return made;
    }

    double share() {
        return c.counts[2] == 0 ? 1.0 : (double) c.counts[1] / c.counts[2];
    }

    long digest() {
        List<Long> values = new ArrayList<>();
        for (int what = 0; what < 10; what++) {
            values.add((long) count(what));
        }
        values.add((long) setting(0));
        values.add((long) setting(1));
        for (int w = 0; w < 16; w++) {
            values.add((long) read(w));
            for (int what = 0; what < 5; what++) {
                values.add((long) word(w, what));
            }
            values.add((long) ifWritten(w, 1365));
            values.add((long) costliest(w));
        }
        for (int s = 0; s < 18; s++) {
            for (int what = 0; what < 6; what++) {
                values.add((long) slot(s, what));
            }
            values.add((long) cost(s, 2730));
        }
        for (int cell = 0; cell < 13; cell++) {
            values.add((long) wearOf(0, cell));
        }
        values.add((long) life(0, 819));
        values.add(Double.doubleToLongBits(share()));
        values.add((long) buffer.length());
        for (int i = 0; i < buffer.length(); i++) {
            values.add((long) buffer.charAt(i));
        }
        long hash = 2969;
        for (long value : values) {
            hash = 31 * hash + value;
        }
        return hash;
    }
}
