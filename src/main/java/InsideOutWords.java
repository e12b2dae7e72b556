public final class InsideOutWords {
    /** There is nothing to return. */
    public static final int NONE = -1;

    private static final int WORDS = 16;
    private static final int SLOTS = 18;
    private static final int CELLS = 13;
    private static final int NUMBER_BITS = 4095;
    private static final int TURN_BIT = 4096;

    private static final int GREATEST_WEAR = 99999;
    private static final int GREATEST_WEAR_AT_ONCE = 999;
    private static final int HAMMER_TIMES = 500;
    private static final int SAVED_STATES = 6;

    private static final int BEARS = 0;
    private static final int HOT_AT = 1;
    private static final int SETTINGS = 2;
    private static final int GREATEST_BEARS = 999;
    private static final int GREATEST_HOT_AT = 99;

    private static final int TEXT_LENGTH = 60;
    private static final int LEAST_CODE = 33;
    private static final int GREATEST_CODE = 126;

    private static final int COUNTS = 10;
    private static final int WORD_PROPERTIES = 5;
    private static final int SLOT_PROPERTIES = 6;

    private final State now;
    /** What would be is tried on it, so that no call needs new rows. */
    private final State trial;
    private final History history;
    private final Text text;

    public InsideOutWords() {
        now = new State();
        trial = new State();
        history = new History();
        text = new Text();
    }

    // ---- words

    public int write(int word, int number)
            throws IndexOutOfBoundsException, IllegalArgumentException, IllegalStateException {
        needWord(word);
        needNumber(number);
        int target = now.targetOf(word, number);
        if (target == NONE) {
            throw new IllegalStateException("the write is refused");
        }
        history.keep(now);
        return now.place(word, number, target);
    }

    public int hammer(int word, int number, int times)
            throws IndexOutOfBoundsException, IllegalArgumentException {
        needWord(word);
        needNumber(number);
        if (isOutside(times, 1, HAMMER_TIMES)) {
            throw new IllegalArgumentException("times is out of range");
        }
        history.keep(now);
        return now.placeInTurns(word, number, times);
    }

    public int exchange(int word, int other) throws IndexOutOfBoundsException {
        needWord(word);
        needWord(other);
        history.keep(now);
        now.swapSlots(word, other);
        return now.slotOf[word];
    }

    public int wear(int slot, int cell, int by)
            throws IndexOutOfBoundsException, IllegalArgumentException, IllegalStateException {
        needSlot(slot);
        needCell(cell);
        if (isOutside(by, 1, GREATEST_WEAR_AT_ONCE)) {
            throw new IllegalArgumentException("by is out of range");
        }
        int worn = now.wornAt(slot, cell) + by;
        if (worn > GREATEST_WEAR) {
            throw new IllegalStateException("the wear would be too great");
        }
        history.keep(now);
        now.worn[slot * CELLS + cell] = worn;
        return worn;
    }

    public int set(int setting, int value) throws IndexOutOfBoundsException, IllegalArgumentException {
        needSetting(setting);
        boolean wrong = setting == BEARS
                ? isOutside(value, 1, GREATEST_BEARS)
                : isOutside(value, 0, GREATEST_HOT_AT);
        if (wrong) {
            throw new IllegalArgumentException("value is out of range");
        }
        history.keep(now);
        int previous = now.settings[setting];
        now.settings[setting] = value;
        return previous;
    }

    // ---- texts

    public int append(int code) throws IllegalArgumentException, IllegalStateException {
        if (isOutside(code, LEAST_CODE, GREATEST_CODE)) {
            throw new IllegalArgumentException("code is not 33 to 126");
        }
        if (text.length >= TEXT_LENGTH) {
            throw new IllegalStateException("the buffer is full");
        }
        text.add(code);
        return text.length;
    }

    public int clearBuffer() {
        int had = text.length;
        text.length = 0;
        return had;
    }

    public int firstError() {
        return text.parse();
    }

    public int writeAll() throws IllegalArgumentException {
        if (!text.isComplete()) {
            throw new IllegalArgumentException("the buffer is not complete writes");
        }
        history.keep(now);
        text.length = 0;
        return placeParsed();
    }

    public int undo() throws IllegalStateException {
        if (history.size == 0) {
            throw new IllegalStateException("no state is saved");
        }
        history.giveBack(now);
        return history.size;
    }

    // ---- looks; nothing is changed

    public int read(int word) throws IndexOutOfBoundsException {
        needWord(word);
        return now.numberOf(word);
    }

    public int word(int word, int what) throws IndexOutOfBoundsException, IllegalArgumentException {
        needWord(word);
        needWhat(what, WORD_PROPERTIES);
        switch (what) {
            case 0:
                return now.slotOf[word];
            case 1:
                return now.writesHere[word];
            case 2:
                return now.writesOf[word];
            case 3:
                return now.movesOf[word];
            default:
                return now.isHot(word) ? 1 : 0;
        }
    }

    public int slot(int slot, int what) throws IndexOutOfBoundsException, IllegalArgumentException {
        needSlot(slot);
        needWhat(what, SLOT_PROPERTIES);
        switch (what) {
            case 0:
                return now.wordIn[slot];
            case 1:
                return now.held[slot] & NUMBER_BITS;
            case 2:
                return (now.held[slot] & TURN_BIT) != 0 ? 1 : 0;
            case 3:
                return now.wornTogether(slot);
            case 4:
                return now.stuckIn(slot);
            default:
                return now.mostWorn(slot);
        }
    }

    public int wearOf(int slot, int cell) throws IndexOutOfBoundsException {
        needSlot(slot);
        needCell(cell);
        return now.wornAt(slot, cell);
    }

    public int count(int what) throws IllegalArgumentException {
        needWhat(what, COUNTS);
        switch (what) {
            case 0:
                return now.writes;
            case 1:
                return now.changes;
            case 2:
                return now.plainChanges;
            case 3:
                return now.moves;
            case 4:
                return now.turnedWrites;
            case 5:
                return now.stuckCells();
            case 6:
                return now.leastWornFree();
            case 7:
                return now.hotWords();
            case 8:
                return now.sumOfWords();
            default:
                return history.size;
        }
    }

    public int setting(int setting) throws IndexOutOfBoundsException {
        needSetting(setting);
        return now.settings[setting];
    }

    // ---- what would be; nothing is changed

    public int cost(int slot, int number) throws IndexOutOfBoundsException, IllegalArgumentException {
        needSlot(slot);
        needNumber(number);
        int way = now.wayIn(slot, number);
        return way == NONE ? NONE : Integer.bitCount(now.held[slot] ^ way);
    }

    public int ifWritten(int word, int number) throws IndexOutOfBoundsException, IllegalArgumentException {
        needWord(word);
        needNumber(number);
        return now.targetOf(word, number);
    }

    public int costliest(int word) throws IndexOutOfBoundsException {
        needWord(word);
        return now.dearestIn(now.slotOf[word]);
    }

    public int life(int word, int number) throws IndexOutOfBoundsException, IllegalArgumentException {
        needWord(word);
        needNumber(number);
        trial.copyFrom(now);
        return trial.placeInTurns(word, number, HAMMER_TIMES);
    }

    public double share() {
        int plain = now.plainChanges;
        return plain == 0 ? 1.0 : (double) now.changes / plain;
    }

    public long digest() {
        long hash = 2969;
        for (int what = 0; what < COUNTS; what++) {
            hash = 31 * hash + count(what);
        }
        for (int setting = 0; setting < SETTINGS; setting++) {
            hash = 31 * hash + now.settings[setting];
        }
        for (int word = 0; word < WORDS; word++) {
            hash = hashOfWord(hash, word);
        }
        for (int slot = 0; slot < SLOTS; slot++) {
            hash = hashOfSlot(hash, slot);
        }
        for (int cell = 0; cell < CELLS; cell++) {
            hash = 31 * hash + now.wornAt(0, cell);
        }
        hash = 31 * hash + life(0, 819);
        hash = 31 * hash + bitsOf(share());
        return text.hashAfter(hash);
    }

    private long hashOfWord(long before, int word) {
        long hash = 31 * before + read(word);
        for (int what = 0; what < WORD_PROPERTIES; what++) {
            hash = 31 * hash + word(word, what);
        }
        hash = 31 * hash + ifWritten(word, 1365);
        return 31 * hash + costliest(word);
    }

    private long hashOfSlot(long before, int slot) {
        long hash = before;
        for (int what = 0; what < SLOT_PROPERTIES; what++) {
            hash = 31 * hash + slot(slot, what);
        }
        return 31 * hash + cost(slot, 2730);
    }

    /** The bits that Double.doubleToLongBits gives, which LANGUAGE.md leaves out: for 0.0 and normal doubles above it. */
    private static long bitsOf(double value) {
        if (!(value > 0.0)) {
            return 0;
        }
        long exponent = 1023;
        double scaled = value;
        for (int i = 0; i < 1100 && scaled >= 2.0; i++) {
            scaled = scaled / 2.0;
            exponent++;
        }
        for (int i = 0; i < 1100 && scaled < 1.0; i++) {
            scaled = scaled * 2.0;
            exponent--;
        }
        long fraction = (long) ((scaled - 1.0) * 4503599627370496.0);
        return (exponent << 52) | fraction;
    }

    private int placeParsed() {
        for (int i = 0; i < text.parsed; i++) {
            int word = text.parsedWord[i];
            int number = text.parsedNumber[i];
            int target = now.targetOf(word, number);
            if (target == NONE) {
                return i;
            }
            now.place(word, number, target);
        }
        return text.parsed;
    }

    private static boolean isOutside(int value, int least, int greatest) {
        return value < least || value > greatest;
    }

    private static void needWord(int word) {
        if (isOutside(word, 0, WORDS - 1)) {
            throw new IndexOutOfBoundsException("there is no such word");
        }
    }

    private static void needSlot(int slot) {
        if (isOutside(slot, 0, SLOTS - 1)) {
            throw new IndexOutOfBoundsException("there is no such slot");
        }
    }

    private static void needCell(int cell) {
        if (isOutside(cell, 0, CELLS - 1)) {
            throw new IndexOutOfBoundsException("there is no such cell");
        }
    }

    private static void needSetting(int setting) {
        if (isOutside(setting, 0, SETTINGS - 1)) {
            throw new IndexOutOfBoundsException("there is no such setting");
        }
    }

    private static void needNumber(int number) {
        if (isOutside(number, 0, NUMBER_BITS)) {
            throw new IllegalArgumentException("number is out of range");
        }
    }

    private static void needWhat(int what, int bound) {
        if (isOutside(what, 0, bound - 1)) {
            throw new IllegalArgumentException("what is out of range");
        }
    }

    /** All that undo brings back. */
    private static final class State {
        /** The cells of each slot as bits, the cell 12 as TURN_BIT. */
        final int[] held = new int[SLOTS];
        /** The wear of the cell c of the slot s at s * CELLS + c. */
        final int[] worn = new int[SLOTS * CELLS];
        final int[] wordIn = new int[SLOTS];
        final int[] slotOf = new int[WORDS];
        final int[] writesHere = new int[WORDS];
        final int[] writesOf = new int[WORDS];
        final int[] movesOf = new int[WORDS];
        final int[] settings = new int[SETTINGS];
        int writes;
        int changes;
        int plainChanges;
        int moves;
        int turnedWrites;

        State() {
            for (int slot = 0; slot < SLOTS; slot++) {
                wordIn[slot] = slot < WORDS ? slot : NONE;
            }
            for (int word = 0; word < WORDS; word++) {
                slotOf[word] = word;
            }
            settings[BEARS] = 20;
        }

        void copyFrom(State other) {
            System.arraycopy(other.held, 0, held, 0, SLOTS);
            System.arraycopy(other.worn, 0, worn, 0, SLOTS * CELLS);
            System.arraycopy(other.wordIn, 0, wordIn, 0, SLOTS);
            System.arraycopy(other.slotOf, 0, slotOf, 0, WORDS);
            System.arraycopy(other.writesHere, 0, writesHere, 0, WORDS);
            System.arraycopy(other.writesOf, 0, writesOf, 0, WORDS);
            System.arraycopy(other.movesOf, 0, movesOf, 0, WORDS);
            System.arraycopy(other.settings, 0, settings, 0, SETTINGS);
            writes = other.writes;
            changes = other.changes;
            plainChanges = other.plainChanges;
            moves = other.moves;
            turnedWrites = other.turnedWrites;
        }

        int wornAt(int slot, int cell) {
            return worn[slot * CELLS + cell];
        }

        int wornTogether(int slot) {
            int sum = 0;
            int first = slot * CELLS;
            for (int cell = 0; cell < CELLS; cell++) {
                sum += worn[first + cell];
            }
            return sum;
        }

        int mostWorn(int slot) {
            int most = 0;
            int first = slot * CELLS;
            for (int cell = 0; cell < CELLS; cell++) {
                most = Math.max(most, worn[first + cell]);
            }
            return most;
        }

        int stuckIn(int slot) {
            int mask = 0;
            int first = slot * CELLS;
            for (int cell = 0; cell < CELLS; cell++) {
                if (worn[first + cell] >= settings[BEARS]) {
                    mask |= 1 << cell;
                }
            }
            return mask;
        }

        int stuckCells() {
            int cells = 0;
            for (int slot = 0; slot < SLOTS; slot++) {
                cells += Integer.bitCount(stuckIn(slot));
            }
            return cells;
        }

        int numberIn(int slot) {
            int cells = held[slot];
            return (cells & TURN_BIT) == 0 ? cells : ~cells & NUMBER_BITS;
        }

        int numberOf(int word) {
            return numberIn(slotOf[word]);
        }

        int sumOfWords() {
            int sum = 0;
            for (int word = 0; word < WORDS; word++) {
                sum += numberOf(word);
            }
            return sum;
        }

        boolean isHot(int word) {
            return settings[HOT_AT] > 0 && writesHere[word] >= settings[HOT_AT];
        }

        int hotWords() {
            int hot = 0;
            for (int word = 0; word < WORDS; word++) {
                if (isHot(word)) {
                    hot++;
                }
            }
            return hot;
        }

        /** What the slot would hold with the number written to it, NONE if it bars the number. */
        int wayIn(int slot, int number) {
            int plain = number;
            int turned = (~number & NUMBER_BITS) | TURN_BIT;
            int stuck = stuckIn(slot);
            int byPlain = held[slot] ^ plain;
            int byTurned = held[slot] ^ turned;
            boolean turnedIsOpen = (byTurned & stuck) == 0;
            if ((byPlain & stuck) != 0) {
                return turnedIsOpen ? turned : NONE;
            }
            // Both ways together change each of the 13 cells once, so they are never alike.
            boolean turnedIsLess = Integer.bitCount(byTurned) < Integer.bitCount(byPlain);
            return turnedIsOpen && turnedIsLess ? turned : plain;
        }

        /** Of two free slots the one to take first; NONE is taken last. */
        private int lessWorn(int lower, int higher) {
            return lower == NONE || wornTogether(higher) < wornTogether(lower) ? higher : lower;
        }

        int leastWornFree() {
            int best = NONE;
            for (int slot = 0; slot < SLOTS; slot++) {
                if (wordIn[slot] == NONE) {
                    best = lessWorn(best, slot);
                }
            }
            return best;
        }

        int leastWornFreeFor(int number) {
            int best = NONE;
            for (int slot = 0; slot < SLOTS; slot++) {
                if (wordIn[slot] == NONE && wayIn(slot, number) != NONE) {
                    best = lessWorn(best, slot);
                }
            }
            return best;
        }

        /** The slot that the word has once it is given the number, NONE if the write is refused. */
        int targetOf(int word, int number) {
            int own = slotOf[word];
            boolean ownTakes = wayIn(own, number) != NONE;
            if (ownTakes && !isHot(word)) {
                return own;
            }
            int free = leastWornFreeFor(number);
            return free == NONE && ownTakes ? own : free;
        }

        /** Writes the number to a slot that targetOf gave; returns how many cells change. */
        int place(int word, int number, int target) {
            int way = wayIn(target, number);
            int changed = held[target] ^ way;
            int cells = Integer.bitCount(changed);
            writes++;
            changes += cells;
            plainChanges += Integer.bitCount(numberOf(word) ^ number);
            if ((way & TURN_BIT) != 0) {
                turnedWrites++;
            }
            held[target] = way;
            wearCells(target, changed);
            settle(word, target);
            return cells;
        }

        private void wearCells(int slot, int mask) {
            int first = slot * CELLS;
            for (int cell = 0; cell < CELLS; cell++) {
                worn[first + cell] += (mask >> cell) & 1;
            }
        }

        private void settle(int word, int target) {
            writesOf[word]++;
            int own = slotOf[word];
            if (target == own) {
                writesHere[word]++;
                return;
            }
            wordIn[own] = NONE;
            wordIn[target] = word;
            slotOf[word] = target;
            writesHere[word] = 0;
            movesOf[word]++;
            moves++;
        }

        /** Writes the number and the number turned, in turns; returns how many writes are made ahead of a refused one. */
        int placeInTurns(int word, int number, int times) {
            int next = number;
            for (int made = 0; made < times; made++) {
                int target = targetOf(word, next);
                if (target == NONE) {
                    return made;
                }
                place(word, next, target);
                next ^= NUMBER_BITS;
            }
            return times;
        }

        void swapSlots(int word, int other) {
            int former = slotOf[word];
            slotOf[word] = slotOf[other];
            slotOf[other] = former;
            wordIn[slotOf[word]] = word;
            wordIn[slotOf[other]] = other;
            writesHere[word] = 0;
            writesHere[other] = 0;
        }

        /**
         * The number that costs most in the slot, of several the lowest. There is always one, as no slot bars the
         * number that it holds.
         */
        int dearestIn(int slot) {
            int holds = numberIn(slot);
            int stuck = stuckIn(slot);
            // A stuck cell 12 leaves one way, which costs most where all cells change that can.
            if ((stuck & TURN_BIT) != 0) {
                return holds ^ (~stuck & NUMBER_BITS);
            }
            // Stuck cells leave the way that keeps the cell 12 to numbers that agree on all of them, the other way to
            // numbers that agree on none of them; the other way changes the cell 12 too, so it can cost one more.
            if (stuck != 0) {
                return holds ^ stuck;
            }
            return lowestHalfwayFrom(holds);
        }

        /** With no stuck cell the dearest numbers cost 6: those with 6 or 7 other bits than the slot holds. */
        private static int lowestHalfwayFrom(int holds) {
            int ones = Integer.bitCount(holds);
            return ones < 6
                    ? lowestOnes(~holds & NUMBER_BITS, 6 - ones)
                    : lowestOnes(holds, ones - 7);
        }

        /** The lowest bits of the mask that are 1, as many as wanted; none if fewer than 1 are wanted. */
        private static int lowestOnes(int mask, int wanted) {
            int rest = mask;
            for (int i = 0; i < wanted; i++) {
                rest &= rest - 1;
            }
            return mask ^ rest;
        }
    }

    /** The latest saved states, in rows that are used again in a ring. */
    private static final class History {
        private final State[] rows = new State[SAVED_STATES];
        private int oldest;
        int size;

        History() {
            for (int i = 0; i < SAVED_STATES; i++) {
                rows[i] = new State();
            }
        }

        void keep(State state) {
            if (size == SAVED_STATES) {
                oldest = (oldest + 1) % SAVED_STATES;
            } else {
                size++;
            }
            rows[latest()].copyFrom(state);
        }

        /** Only for a history that has a state. */
        void giveBack(State state) {
            state.copyFrom(rows[latest()]);
            size--;
        }

        private int latest() {
            return (oldest + size - 1) % SAVED_STATES;
        }
    }

    /** The buffer, and the writes that its text tells. */
    private static final class Text {
        private static final int WANTS_WORD = 0;
        private static final int WANTS_EQUALS = 1;
        private static final int WANTS_NUMBER = 2;
        private static final int IN_NUMBER = 3;

        private final int[] codes = new int[TEXT_LENGTH];
        int length;
        final int[] parsedWord = new int[TEXT_LENGTH];
        final int[] parsedNumber = new int[TEXT_LENGTH];
        int parsed;
        private int stage;
        private int word;

        /** Only for a buffer that is not full. */
        void add(int code) {
            codes[length] = code;
            length++;
        }

        /** Returns the index of the first syntax error, the length if there is none; the writes ahead of it are parsed. */
        int parse() {
            stage = WANTS_WORD;
            parsed = 0;
            for (int i = 0; i < length; i++) {
                if (!takes(codes[i])) {
                    return i;
                }
            }
            return length;
        }

        boolean isComplete() {
            return parse() == length && stage == IN_NUMBER;
        }

        private boolean takes(int code) {
            switch (stage) {
                case WANTS_WORD:
                    word = code - 'a';
                    stage = WANTS_EQUALS;
                    return !isOutside(word, 0, WORDS - 1);
                case WANTS_EQUALS:
                    stage = WANTS_NUMBER;
                    return code == '=';
                case WANTS_NUMBER:
                    return takesFirstDigit(code - '0');
                default:
                    return takesInNumber(code);
            }
        }

        private boolean takesFirstDigit(int digit) {
            // Each write takes characters of its own, so the rows always have room; looked at all the same.
            if (isOutside(digit, 0, 9) || isOutside(parsed, 0, TEXT_LENGTH - 1)) {
                return false;
            }
            parsedWord[parsed] = word;
            parsedNumber[parsed] = digit;
            parsed++;
            stage = IN_NUMBER;
            return true;
        }

        private boolean takesInNumber(int code) {
            if (code == ',' || code == ';') {
                stage = code == ',' ? WANTS_NUMBER : WANTS_WORD;
                return true;
            }
            int last = parsed - 1;
            if (isOutside(last, 0, TEXT_LENGTH - 1)) {
                return false;
            }
            int before = parsedNumber[last];
            int digit = code - '0';
            int number = before * 10 + digit;
            // A number that begins with 0 ends there, as leading zeros are ruled out.
            if (isOutside(digit, 0, 9) || before == 0 || number > NUMBER_BITS) {
                return false;
            }
            parsedNumber[last] = number;
            return true;
        }

        long hashAfter(long before) {
            long hash = 31 * before + length;
            for (int i = 0; i < length; i++) {
                hash = 31 * hash + codes[i];
            }
            return hash;
        }
    }
}
