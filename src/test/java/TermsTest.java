/** Terms, but for Input text and Undo: each sentence that names an edge stands above the test that looks at it. */
public final class TermsTest {
    private static final int NONE = InsideOutWords.NONE;

    public static void main(String[] args) {
        theLastCallIsAnswered();
        manyWritesAreCounted();
        slotsAndWordsAtFirst();
        stuckFromSettingZeroOn();
        wordsReadBothWays();
        aWayIsOpen();
        theWayWithFewerChanges();
        theWaysAreNeverAlike();
        eachCellThatChangesWears();
        aCellBearsSoManyChanges();
        aSlotBars();
        neverHotWithZero();
        hotFromSettingOneOn();
        hotByTheSettingNow();
        theLeastWornFreeSlot();
        ofSeveralTheLowest();
        ofThoseThatDoNotBar();
        writtenZeroTimesThere();
        theFormerSlotIsFree();
        notHotStays();
        hotStaysIfAllFreeSlotsBar();
        barredMovesAsIfHot();
        refusedIfAllBar();
        aFreeSlotKeepsItsCells();
        settingsAtFirst();
        notStuckAnyMore();
        Check.end();
    }

    /** "An object is used for at most 512 calls after it has been made": the 512th is still one of them. */
    private static void theLastCallIsAnswered() {
        InsideOutWords x = new InsideOutWords();
        InsideOutWords y = new InsideOutWords();
        for (int call = 1; call <= 511; call++) {
            x.set(0, call);
            y.set(0, call);
        }
        Check.is("undo as call 512", 5, x.undo());
        Check.is("setting as call 512", 511, y.setting(0));
    }

    /** As much as can be written in 512 calls, with cells that bear as much as they can. */
    private static void manyWritesAreCounted() {
        InsideOutWords x = new InsideOutWords();
        PlainModel due = new PlainModel();
        Check.is("set", due.set(0, 999), x.set(0, 999));
        for (int call = 2; call <= 508; call++) {
            int number = call * 37 & 4095;
            Check.is("call " + call, due.hammer(call % 16, number, 500), x.hammer(call % 16, number, 500));
        }
        for (int what = 0; what < 3; what++) {
            Check.is("count of " + what, due.count(what), x.count(what));
        }
        Check.is("call 512", due.digest(), x.digest());
    }

    /**
     * "There are 18 slots ... A slot has 12 cells, and the cell 12 ... each cell holds 0 or 1, at first 0, and has a
     * wear, at first 0. There are 16 words, each in a slot of its own, at first that with its number; the other slots
     * are free."
     */
    private static void slotsAndWordsAtFirst() {
        InsideOutWords x = new InsideOutWords();
        for (int slot = 0; slot < 18; slot++) {
            Check.is("word of slot " + slot, slot < 16 ? slot : NONE, x.slot(slot, 0));
            Check.is("cells of slot " + slot, 0, x.slot(slot, 1));
            Check.is("cell 12 of slot " + slot, 0, x.slot(slot, 2));
            for (int cell = 0; cell < 13; cell++) {
                Check.is("wear of slot " + slot, 0, x.wearOf(slot, cell));
            }
        }
        for (int word = 0; word < 16; word++) {
            Check.is("slot of word " + word, word, x.word(word, 0));
        }
    }

    /** "A cell is stuck if its wear is at least setting 0." One cell is worn by one less, one by it, one by one more. */
    private static void stuckFromSettingZeroOn() {
        int[] settings = {2, 3, 20, 997, 998};
        for (int bears : settings) {
            InsideOutWords x = new InsideOutWords();
            x.set(0, bears);
            x.wear(2, 3, bears - 1);
            x.wear(2, 4, bears);
            x.wear(2, 5, bears + 1);
            Check.is("stuck cells of the slot", 16 + 32, x.slot(2, 4));
            Check.is("stuck cells", 2, x.count(5));
            Check.is("the cell below it changes", 1, x.cost(2, 8));
            Check.is("one at it does not", NONE, x.cost(2, 16));
            Check.is("one above it does not", NONE, x.cost(2, 32));
            Check.is("the way round both", 11, x.cost(2, 48));
        }
        InsideOutWords least = new InsideOutWords();
        least.set(0, 1);
        Check.is("no wear is not stuck with 1", 0, least.count(5));
        least.wear(17, 12, 1);
        Check.is("a wear of 1 is", 4096, least.slot(17, 4));
        InsideOutWords greatest = new InsideOutWords();
        greatest.set(0, 999);
        greatest.wear(0, 0, 998);
        Check.is("998 is not stuck with 999", 0, greatest.count(5));
        greatest.wear(0, 0, 1);
        Check.is("999 is", 1, greatest.count(5));
    }

    /**
     * "A word reads the number with the bit c as the cell c of its slot holds it, if the cell 12 holds 0, and the number
     * with all 12 bits turned otherwise: 0 to 4095." The least and the greatest number, held both ways.
     */
    private static void wordsReadBothWays() {
        InsideOutWords x = new InsideOutWords();
        reads("0 plain", x, 0, 0, 0);
        x.write(0, 4095);
        reads("4095 turned", x, 4095, 0, 1);
        x.write(0, 4032);
        reads("4032 turned", x, 4032, 63, 1);
        x.write(0, 0);
        reads("0 turned", x, 0, 4095, 1);
        x.write(0, 4095);
        reads("4095 plain", x, 4095, 4095, 0);
    }

    private static void reads(String what, InsideOutWords x, int number, int cells, int turn) {
        Check.is(what + ": number", number, x.read(0));
        Check.is(what + ": cells", cells, x.slot(0, 1));
        Check.is(what + ": cell 12", turn, x.slot(0, 2));
    }

    /** "A way is open if each cell that would change is not stuck." */
    private static void aWayIsOpen() {
        InsideOutWords x = new InsideOutWords();
        x.set(0, 1);
        x.wear(0, 0, 1);
        Check.is("a stuck cell that stays", 1, x.cost(0, 2));
        Check.is("a stuck cell that would change", 12, x.cost(0, 1));
        Check.is("a stuck cell among others that would change", 11, x.cost(0, 3));
        x.wear(1, 12, 1);
        Check.is("the cell 12 stuck", 12, x.cost(1, 4095));
        Check.is("the cell 12 stuck, and it stays", 1, x.cost(1, 1));
        InsideOutWords y = new InsideOutWords();
        y.write(0, 1);
        y.wear(0, 0, 19);
        Check.is("a stuck cell that holds 1 stays", 0, y.cost(0, 1));
        Check.is("a stuck cell that holds 1 would change", 12, y.cost(0, 0));
    }

    /** "Of the open ways the one with fewer changes is taken": 6 changes against 7, from both ways to both ways. */
    private static void theWayWithFewerChanges() {
        InsideOutWords x = new InsideOutWords();
        takes("plain to plain", x, 0, 63, 0);
        takes("plain to turned", x, 1, 127, 1);
        x.write(2, 4095);
        takes("turned to turned", x, 2, 4095 ^ 63, 1);
        x.write(3, 4095);
        takes("turned to plain", x, 3, 4095 ^ 127, 0);
    }

    private static void takes(String what, InsideOutWords x, int word, int number, int turn) {
        Check.is(what + ": cost", 6, x.cost(word, number));
        Check.is(what + ": changes", 6, x.write(word, number));
        Check.is(what + ": cell 12", turn, x.slot(word, 2));
        Check.is(what + ": number", number, x.read(word));
    }

    /**
     * "Of both alike the one with which the cell 12 does not change": the two ways change each of the 13 cells once
     * together, so that the lesser one of them is always less.
     */
    private static void theWaysAreNeverAlike() {
        for (int first = 0; first < 4096; first += 256) {
            InsideOutWords x = new InsideOutWords();
            x.write(0, 1365);
            for (int number = first; number < first + 256; number++) {
                int stays = Integer.bitCount(number ^ 1365);
                Check.is("cost of " + number, Math.min(stays, 13 - stays), x.cost(0, number));
            }
        }
    }

    /** "Each cell that changes wears by 1." */
    private static void eachCellThatChangesWears() {
        InsideOutWords x = new InsideOutWords();
        x.write(0, 2049);
        wears("plain", x, 0, 2049);
        x.write(0, 2049);
        wears("no change", x, 0, 2049);
        x.write(1, 4095 ^ 6);
        wears("turned", x, 1, 6 + 4096);
        x.write(1, 6);
        wears("back", x, 1, 6);
        Check.is("the cell 12 twice", 2, x.wearOf(1, 12));
    }

    /** The cells of the mask have a wear of 1, the others but for the cell 12 none. */
    private static void wears(String what, InsideOutWords x, int slot, int mask) {
        for (int cell = 0; cell < 12; cell++) {
            Check.is(what + ": wear of cell " + cell, mask >> cell & 1, x.wearOf(slot, cell));
        }
        if (mask > 4095) {
            Check.is(what + ": wear of cell 12", 1, x.wearOf(slot, 12));
        }
    }

    /** "0: how many changes a cell bears." */
    private static void aCellBearsSoManyChanges() {
        int[] settings = {1, 2, 20, 150};
        for (int bears : settings) {
            InsideOutWords x = new InsideOutWords();
            x.set(0, bears);
            for (int i = 1; i <= bears; i++) {
                Check.is("change " + i + " of " + bears, 1, x.write(0, i % 2));
            }
            Check.is("it is stuck", 1, x.slot(0, 4));
            Check.is("one change more goes the other way", 12, x.write(0, 1 - bears % 2));
            Check.is("its wear stays", bears, x.wearOf(0, 0));
        }
    }

    /** "If none is open, the slot bars the number." */
    private static void aSlotBars() {
        InsideOutWords x = new InsideOutWords();
        x.set(0, 1);
        Check.wearMask(x, 17, 1);
        Check.is("one way is open", 12, x.cost(17, 1));
        Check.wearMask(x, 17, 2);
        Check.is("each way has a stuck cell that would change", NONE, x.cost(17, 1));
        Check.is("and so for the other cell", NONE, x.cost(17, 2));
        Check.is("the one way is open for both cells", 11, x.cost(17, 3));
        Check.is("the other way is open for none of them", 10, x.cost(17, 4092));
        for (int cell = 0; cell < 13; cell++) {
            Check.wearMask(x, 16, 1 << cell);
        }
        Check.is("all cells are stuck", NONE, x.cost(16, 1));
        Check.is("all cells are stuck, turned", NONE, x.cost(16, 4095));
        Check.is("what it holds", 0, x.cost(16, 0));
    }

    /** "If setting 1 is above 0." */
    private static void neverHotWithZero() {
        InsideOutWords x = new InsideOutWords();
        x.set(0, 999);
        Check.is("writes", 500, x.hammer(0, 7, 500));
        Check.is("not hot", 0, x.word(0, 4));
        Check.is("none hot", 0, x.count(7));
        Check.is("it stays", 0, x.ifWritten(0, 7));
        x.write(0, 7);
        Check.is("no move", 0, x.count(3));
        Check.is("written since it came", 501, x.word(0, 1));
        Check.is("a word without writes is not hot", 0, x.word(1, 4));
    }

    /** "The word has been written at least setting 1 times since it came to its slot": one less, as many, one more. */
    private static void hotFromSettingOneOn() {
        int[] settings = {2, 3, 98, 99};
        for (int times : settings) {
            InsideOutWords x = new InsideOutWords();
            x.set(1, times);
            hotFrom(x, times);
        }
        InsideOutWords least = new InsideOutWords();
        least.set(1, 1);
        Check.is("without writes it is not hot with 1", 0, least.word(0, 4));
        Check.is("and none is", 0, least.count(7));
        least.write(0, 5);
        Check.is("the first write does not move it", 0, least.word(0, 0));
        Check.is("with one write it is hot", 1, least.word(0, 4));
        least.write(0, 5);
        Check.is("the second write moves it", 16, least.word(0, 0));
    }

    private static void hotFrom(InsideOutWords x, int times) {
        for (int i = 1; i < times; i++) {
            x.write(0, 5);
        }
        Check.is("not hot with one less than " + times, 0, x.word(0, 4));
        Check.is("it would stay", 0, x.ifWritten(0, 5));
        x.write(0, 5);
        Check.is("the write with which it gets hot does not move it", 0, x.word(0, 0));
        Check.is("hot with " + times, 1, x.word(0, 4));
        Check.is("it would move", 16, x.ifWritten(0, 5));
        Check.is("written as often", times, x.word(0, 1));
        Check.is("what changes there", 2, x.write(0, 5));
        Check.is("one more moves it", 16, x.word(0, 0));
    }

    private static void hotByTheSettingNow() {
        InsideOutWords x = new InsideOutWords();
        x.hammer(0, 0, 3);
        int[] settings = {0, 1, 2, 3, 4, 99};
        for (int times : settings) {
            x.set(1, times);
            int hot = times >= 1 && times <= 3 ? 1 : 0;
            Check.is("three writes with " + times, hot, x.word(0, 4));
            Check.is("hot words with " + times, hot, x.count(7));
        }
    }

    /** A word that is hot, in an object in which the free slots are not worn yet. */
    private static InsideOutWords hot(int word) {
        InsideOutWords x = new InsideOutWords();
        x.set(1, 1);
        x.write(word, 0);
        return x;
    }

    /** "The free slot with the least wear (of all its cells together ...)". */
    private static void theLeastWornFreeSlot() {
        InsideOutWords x = hot(0);
        x.wear(16, 0, 1);
        Check.is("one more in the lower one", 17, x.ifWritten(0, 0));
        x.wear(17, 0, 2);
        Check.is("one more in the higher one", 16, x.ifWritten(0, 0));
        x.wear(16, 1, 1);
        x.wear(16, 2, 1);
        Check.is("of all cells together", 17, x.ifWritten(0, 0));
        x.wear(17, 12, 2);
        Check.is("the cell 12 counts too", 16, x.ifWritten(0, 0));
        Check.is("and so it is counted", 16, x.count(6));
        x.write(0, 0);
        Check.is("it is there", 16, x.word(0, 0));
    }

    /** "... of several the lowest." */
    private static void ofSeveralTheLowest() {
        InsideOutWords x = hot(5);
        Check.is("without wear", 16, x.ifWritten(5, 0));
        x.wear(16, 3, 2);
        x.wear(17, 12, 1);
        x.wear(17, 0, 1);
        Check.is("with as much wear in other cells", 16, x.ifWritten(5, 0));
        Check.is("and so it is counted", 16, x.count(6));
        x.write(5, 0);
        x.wear(5, 7, 2);
        x.write(5, 0);
        Check.is("hot again", 1, x.word(5, 4));
        Check.is("a slot that was left is lower", 5, x.ifWritten(5, 0));
        x.wear(5, 7, 1);
        Check.is("with more wear it is not taken", 17, x.ifWritten(5, 0));
    }

    /** "... of those that do not bar it." */
    private static void ofThoseThatDoNotBar() {
        InsideOutWords x = hot(0);
        x.wear(16, 0, 20);
        x.wear(16, 12, 20);
        x.wear(17, 5, 41);
        Check.is("the least worn bars it", 17, x.ifWritten(0, 1));
        Check.is("the least worn does not bar it", 16, x.ifWritten(0, 2));
        Check.is("whether one bars a number is not counted", 16, x.count(6));
        x.write(0, 1);
        Check.is("it is there", 17, x.word(0, 0));
    }

    /** "The word is there from then on, written 0 times there (among the writes so far it counts all the same)." */
    private static void writtenZeroTimesThere() {
        InsideOutWords x = new InsideOutWords();
        x.set(1, 2);
        x.hammer(0, 5, 3);
        Check.is("its slot", 16, x.word(0, 0));
        Check.is("written there", 0, x.word(0, 1));
        Check.is("written so far", 3, x.word(0, 2));
        Check.is("all writes so far", 3, x.count(0));
        Check.is("moves", 1, x.word(0, 3));
        x.write(0, 5);
        Check.is("not hot after one", 0, x.word(0, 4));
        x.write(0, 5);
        Check.is("hot after two", 1, x.word(0, 4));
        Check.is("still there", 16, x.word(0, 0));
    }

    /** "Its former slot is free." */
    private static void theFormerSlotIsFree() {
        InsideOutWords x = hot(3);
        x.write(3, 0);
        Check.is("it has no word", NONE, x.slot(3, 0));
        Check.is("the new one has", 3, x.slot(16, 0));
        Check.is("it is the lowest free one", 3, x.count(6));
        x.write(15, 0);
        x.write(15, 0);
        Check.is("another word takes it", 3, x.word(15, 0));
        Check.is("it has a word again", 15, x.slot(3, 0));
        Check.is("the other one's slot is free", NONE, x.slot(15, 0));
    }

    /** "If it is not hot ... it is written to its own slot, and the word is written once more." */
    private static void notHotStays() {
        InsideOutWords x = hot(0);
        x.wear(9, 1, 19);
        Check.is("a word that is more worn than a free slot", 9, x.ifWritten(9, 1));
        Check.is("the dearer way is no reason to move", 1, x.write(9, 2));
        Check.is("it stays", 9, x.word(9, 0));
        Check.is("written once more", 1, x.word(9, 1));
        Check.is("no moves", 0, x.word(9, 3));
    }

    /** "... or all free slots bar the number, it is written to its own slot, and the word is written once more." */
    private static void hotStaysIfAllFreeSlotsBar() {
        InsideOutWords x = Check.barred();
        x.set(1, 1);
        x.write(4, 0);
        Check.is("hot", 1, x.word(4, 4));
        Check.is("what they don't bar", 16, x.ifWritten(4, 4));
        Check.is("what all free slots bar", 4, x.ifWritten(4, 1));
        Check.is("changes in its own slot", 1, x.write(4, 1));
        Check.is("it stays", 4, x.word(4, 0));
        Check.is("written once more", 2, x.word(4, 1));
        Check.is("still hot", 1, x.word(4, 4));
        Check.is("no moves", 0, x.word(4, 3));
        Check.is("no moves at all", 0, x.count(3));
    }

    /** "If that bars it, the word moves as if it was hot." */
    private static void barredMovesAsIfHot() {
        int[] settings = {0, 1, 99};
        for (int times : settings) {
            InsideOutWords x = new InsideOutWords();
            x.set(0, 1);
            x.set(1, times);
            Check.wearMask(x, 7, 1 | 4096);
            Check.wearMask(x, 16, 2);
            Check.is("not hot with " + times, 0, x.word(7, 4));
            Check.is("it would be the least worn", 17, x.ifWritten(7, 1));
            Check.is("changes there", 1, x.write(7, 1));
            Check.is("it is there", 17, x.word(7, 0));
            Check.is("written 0 times there", 0, x.word(7, 1));
            Check.is("written so far", 1, x.word(7, 2));
            Check.is("moved", 1, x.word(7, 3));
            Check.is("its former slot is free", NONE, x.slot(7, 0));
            Check.wearMask(x, 8, 1 | 4096);
            Check.wearMask(x, 7, 4);
            Check.is("the least worn of the others", 16, x.ifWritten(8, 4095));
            Check.wearMask(x, 16, 4);
            Check.wearMask(x, 16, 4096);
            Check.is("the lowest that does not bar it", 16, x.ifWritten(8, 1));
        }
    }

    /** "If all free slots bar it, too, the write is refused." */
    private static void refusedIfAllBar() {
        int[] settings = {0, 1};
        for (int times : settings) {
            InsideOutWords x = Check.barred();
            x.set(1, times);
            x.write(0, 0);
            Check.is("hot with 1", times, x.word(0, 4));
            Check.is("it would be nowhere", NONE, x.ifWritten(0, 1));
            Check.is("it would live for no write", 0, x.life(0, 1));
            Check.refuses("it is refused", x, Check.STATE, () -> x.write(0, 1));
            Check.is("hammer makes none", 0, x.hammer(0, 1, 2));
            Check.type(x, "a=1");
            Check.is("writeAll makes none", 0, x.writeAll());
            Check.is("it is as it was", 1, x.word(0, 2));
            Check.is("another word takes the number", 1, x.write(1, 1));
        }
    }

    /** "(A free slot keeps what its cells hold.)" */
    private static void aFreeSlotKeepsItsCells() {
        InsideOutWords x = new InsideOutWords();
        x.write(6, 4095 - 40);
        x.wear(6, 2, 20);
        x.set(1, 1);
        x.write(6, 0);
        Check.is("it is free", NONE, x.slot(6, 0));
        Check.is("its cells", 40, x.slot(6, 1));
        Check.is("its cell 12", 1, x.slot(6, 2));
        Check.is("its wear", 23, x.slot(6, 3));
        Check.is("its stuck cells", 4, x.slot(6, 4));
        Check.is("what a number costs there", 0, x.cost(6, 4095 - 40));
    }

    /** "0: how many changes a cell bears, 1 to 999, at first 20; 1: ..., 0 to 99, at first 0." */
    private static void settingsAtFirst() {
        InsideOutWords x = new InsideOutWords();
        Check.is("setting 0 at first", 20, x.setting(0));
        Check.is("setting 1 at first", 0, x.setting(1));
        x.wear(0, 0, 19);
        Check.is("19 is not stuck at first", 0, x.count(5));
        x.wear(0, 0, 1);
        Check.is("20 is stuck at first", 1, x.count(5));
        Check.is("the least of setting 0", 20, x.set(0, 1));
        Check.is("the greatest of setting 0", 1, x.set(0, 999));
        Check.is("the greatest of setting 1", 0, x.set(1, 99));
        Check.is("the least of setting 1", 99, x.set(1, 0));
        Check.is("setting 0 then", 999, x.setting(0));
        Check.is("setting 1 then", 0, x.setting(1));
    }

    /** "(A stuck cell is not stuck any more if setting 0 is made greater than its wear.)" */
    private static void notStuckAnyMore() {
        InsideOutWords x = new InsideOutWords();
        x.wear(3, 1, 50);
        Check.is("stuck", 2, x.slot(3, 4));
        x.set(0, 50);
        Check.is("stuck with its wear", 2, x.slot(3, 4));
        x.set(0, 51);
        Check.is("not stuck with one more", 0, x.slot(3, 4));
        Check.is("it changes", 1, x.write(3, 2));
        Check.is("and is stuck again", 2, x.slot(3, 4));
        x.wear(3, 1, 999);
        x.set(0, 999);
        Check.is("stuck with the greatest setting", 2, x.slot(3, 4));
    }
}
