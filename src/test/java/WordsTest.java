/** Promises 1 to 6: a new object, write, hammer, exchange, wear, set. */
public final class WordsTest {
    public static void main(String[] args) {
        newObject();
        writeTakesTheCheaperWay();
        writeRoundStuckCells();
        barredWordMoves();
        writeIsRefused();
        hotWordMoves();
        hotWordChoosesItsSlot();
        hotWordStays();
        writeWrongInputs();
        hammer();
        hammerEnds();
        hammerWrongInputs();
        exchange();
        wear();
        wearWrongInputs();
        set();
        stuckNoMore();
        setWrongInputs();
        Check.end();
    }

    private static void newObject() {
        InsideOutWords x = new InsideOutWords();
        for (int word = 0; word < 16; word++) {
            Check.is("read of a new word", 0, x.read(word));
            Check.is("slot of a new word", word, x.word(word, 0));
            for (int what = 1; what < 5; what++) {
                Check.is("word(" + word + ", " + what + ") when new", 0, x.word(word, what));
            }
        }
        InsideOutWords y = new InsideOutWords();
        for (int slot = 0; slot < 18; slot++) {
            Check.is("word in a new slot", slot < 16 ? slot : InsideOutWords.NONE, y.slot(slot, 0));
            for (int what = 1; what < 6; what++) {
                Check.is("slot(" + slot + ", " + what + ") when new", 0, y.slot(slot, what));
            }
            for (int cell = 0; cell < 13; cell++) {
                Check.is("wear when new", 0, y.wearOf(slot, cell));
            }
        }
        InsideOutWords z = new InsideOutWords();
        for (int what = 0; what < 10; what++) {
            Check.is("count(" + what + ") when new", what == 6 ? 16 : 0, z.count(what));
        }
        Check.is("setting 0 when new", 20, z.setting(0));
        Check.is("setting 1 when new", 0, z.setting(1));
        Check.is("buffer when new", 0, z.clearBuffer());
    }

    private static void writeTakesTheCheaperWay() {
        InsideOutWords x = new InsideOutWords();
        Check.is("all bits turned", 1, x.write(0, 4095));
        Check.is("cells of it", 0, x.slot(0, 1));
        Check.is("cell 12 of it", 1, x.slot(0, 2));
        Check.is("wear of cell 12", 1, x.wearOf(0, 12));
        Check.is("wear of cell 0", 0, x.wearOf(0, 0));
        Check.is("it is read turned back", 4095, x.read(0));
        Check.is("six bits plain", 6, x.write(1, 63));
        Check.is("cells of six bits", 63, x.slot(1, 1));
        Check.is("cell 12 of six bits", 0, x.slot(1, 2));
        Check.is("seven bits turned", 6, x.write(2, 127));
        Check.is("cells of seven bits", 4095 - 127, x.slot(2, 1));
        Check.is("cell 12 of seven bits", 1, x.slot(2, 2));
        Check.is("seven bits are read", 127, x.read(2));
        Check.is("the same again", 0, x.write(2, 127));
        Check.is("turned to turned", 1, x.write(2, 126));
        Check.is("still turned", 1, x.slot(2, 2));
        Check.is("turned to plain", 1, x.write(0, 0));
        Check.is("wear of cell 12 then", 2, x.wearOf(0, 12));
        Check.is("the last word", 1, x.write(15, 2048));
        Check.is("the last word is read", 2048, x.read(15));
        Check.is("writes", 7, x.count(0));
        Check.is("changes", 1 + 6 + 6 + 0 + 1 + 1 + 1, x.count(1));
        Check.is("writes since it came", 3, x.word(2, 1));
        Check.is("writes so far", 3, x.word(2, 2));
        Check.is("saved states", 6, x.count(9));
    }

    private static void writeRoundStuckCells() {
        InsideOutWords x = new InsideOutWords();
        x.set(0, 1);
        x.wear(0, 0, 1);
        Check.is("the dearer way is the open one", 12, x.write(0, 1));
        Check.is("it is the turned way", 1, x.slot(0, 2));
        Check.is("it is read", 1, x.read(0));
        Check.is("it stays", 0, x.word(0, 0));
        x.wear(1, 12, 1);
        Check.is("a stuck cell 12", 12, x.write(1, 4095));
        Check.is("the plain way is taken", 4095, x.slot(1, 1));
        Check.is("nothing changes in stuck cells", 0, x.write(1, 4095));
        InsideOutWords y = new InsideOutWords();
        y.set(0, 2);
        y.wear(0, 0, 1);
        Check.is("a wear below setting 0", 1, y.write(0, 1));
        Check.is("then it is stuck", 1, y.slot(0, 4));
        Check.is("the other way", 12, y.write(0, 0));
    }

    private static void barredWordMoves() {
        InsideOutWords x = new InsideOutWords();
        x.set(0, 1);
        x.write(3, 2);
        Check.wearMask(x, 3, 1 | 4096);
        Check.is("what changes is in the new slot", 2, x.write(3, 5));
        Check.is("it is in the free slot", 16, x.word(3, 0));
        Check.is("its slot tells it", 3, x.slot(16, 0));
        Check.is("the former slot is free", InsideOutWords.NONE, x.slot(3, 0));
        Check.is("the free slot keeps its cells", 2, x.slot(3, 1));
        Check.is("it is read", 5, x.read(3));
        Check.is("written 0 times there", 0, x.word(3, 1));
        Check.is("written so far", 2, x.word(3, 2));
        Check.is("moved so far", 1, x.word(3, 3));
        Check.is("all moves", 1, x.count(3));
        Check.is("plain changes go by what it read", 1 + 3, x.count(2));
        Check.is("changes in the slots", 1 + 2, x.count(1));
    }

    private static void writeIsRefused() {
        InsideOutWords x = new InsideOutWords();
        x.set(0, 1);
        Check.wearMask(x, 3, 1 | 4096);
        Check.wearMask(x, 16, 1 | 4096);
        Check.wearMask(x, 17, 1);
        Check.is("the last slot that takes it", 12, x.write(3, 1));
        Check.is("it is there", 17, x.word(3, 0));
        Check.wearMask(x, 4, 1 | 4096);
        Check.refuses("write that all bar", x, Check.STATE, () -> x.write(4, 1));
        Check.refuses("write with two wrong inputs", x, Check.NO_SUCH, () -> x.write(16, 4096));
        Check.refuses("write with a bad number that would be refused", x, Check.BAD, () -> x.write(4, -1));
        Check.is("another number", 1, x.write(4, 2));
        Check.is("the refused word is as it was", 2, x.read(4));
    }

    private static void hotWordMoves() {
        InsideOutWords x = new InsideOutWords();
        x.set(1, 2);
        x.write(0, 3);
        Check.is("not hot with 1", 0, x.word(0, 4));
        x.write(0, 3);
        Check.is("hot with 2", 1, x.word(0, 4));
        Check.is("written since it came", 2, x.word(0, 1));
        Check.is("a hot word changes the other slot", 2, x.write(0, 3));
        Check.is("it is there", 16, x.word(0, 0));
        Check.is("not hot there", 0, x.word(0, 4));
        Check.is("written 0 times there", 0, x.word(0, 1));
        Check.is("written so far", 3, x.word(0, 2));
        x.write(0, 7);
        x.write(0, 8);
        Check.is("it stayed", 16, x.word(0, 0));
        x.write(0, 9);
        Check.is("the least worn free slot is the last", 17, x.word(0, 0));
        x.write(0, 9);
        x.write(0, 9);
        x.write(0, 9);
        Check.is("then the first again", 0, x.word(0, 0));
        Check.is("its cells were kept", 9, x.slot(0, 1));
        Check.is("moves of the word", 3, x.word(0, 3));
        Check.is("moves", 3, x.count(3));
    }

    private static void hotWordChoosesItsSlot() {
        InsideOutWords x = new InsideOutWords();
        x.set(1, 1);
        x.wear(16, 12, 1);
        x.write(0, 1);
        x.write(0, 2);
        Check.is("the least worn", 17, x.word(0, 0));
        InsideOutWords y = new InsideOutWords();
        y.set(0, 1);
        y.set(1, 1);
        Check.wearMask(y, 16, 1 | 4096);
        Check.wearMask(y, 17, 2 | 4 | 8);
        y.write(0, 1);
        y.write(0, 1);
        Check.is("the one that does not bar it", 17, y.word(0, 0));
        y.write(1, 2);
        y.write(1, 2);
        Check.is("the slot that was left is less worn", 0, y.word(1, 0));
    }

    private static void hotWordStays() {
        InsideOutWords x = new InsideOutWords();
        x.set(0, 1);
        x.set(1, 1);
        Check.wearMask(x, 16, 1 | 4096);
        Check.wearMask(x, 17, 1 | 4096);
        x.write(0, 2);
        Check.is("hot", 1, x.word(0, 4));
        Check.is("its own slot takes it", 1, x.write(0, 3));
        Check.is("it stays", 0, x.word(0, 0));
        Check.is("written once more", 2, x.word(0, 1));
        Check.is("still hot", 1, x.word(0, 4));
        Check.is("no moves", 0, x.count(3));
        Check.wearMask(x, 0, 4096);
        Check.refuses("hot and barred by all", x, Check.STATE, () -> x.write(0, 1 | 4095 - 2));
    }

    private static void writeWrongInputs() {
        InsideOutWords x = new InsideOutWords();
        Check.refuses("write(-1, 0)", x, Check.NO_SUCH, () -> x.write(-1, 0));
        Check.refuses("write(16, 0)", x, Check.NO_SUCH, () -> x.write(16, 0));
        Check.refuses("write(0, -1)", x, Check.BAD, () -> x.write(0, -1));
        Check.refuses("write(0, 4096)", x, Check.BAD, () -> x.write(0, 4096));
        Check.refuses("write(-1, -1)", x, Check.NO_SUCH, () -> x.write(-1, -1));
        for (int far : Check.FAR) {
            Check.refuses("write far word", x, Check.NO_SUCH, () -> x.write(far, 0));
            Check.refuses("write far number", x, Check.BAD, () -> x.write(15, far));
        }
    }

    private static void hammer() {
        InsideOutWords x = new InsideOutWords();
        Check.is("once", 1, x.hammer(7, 5, 1));
        Check.is("the number itself", 5, x.read(7));
        Check.is("twice", 2, x.hammer(7, 5, 2));
        Check.is("the number turned", 4090, x.read(7));
        Check.is("three times", 3, x.hammer(7, 5, 3));
        Check.is("the number again", 5, x.read(7));
        Check.is("writes", 6, x.word(7, 2));
        Check.is("changes", 2 + 1 + 1 + 1 + 1, x.count(1));
        Check.is("saved once for each call", 3, x.count(9));
        x.undo();
        Check.is("undone as one", 3, x.count(0));
        x.set(0, 999);
        Check.is("as often as can be", 500, x.hammer(0, 0, 500));
    }

    private static void hammerEnds() {
        InsideOutWords x = new InsideOutWords();
        x.set(0, 1);
        Check.is("three, two and two writes in three slots", 7, x.hammer(0, 0, 500));
        Check.is("moves", 2, x.count(3));
        Check.is("changes", 39, x.count(1));
        Check.is("plain changes", 72, x.count(2));
        Check.is("turned writes", 6, x.count(4));
        Check.is("its slot", 17, x.word(0, 0));
        Check.is("saved states", 2, x.count(9));
        Check.is("none is made", 0, x.hammer(0, 4095, 3));
        Check.is("saved all the same", 3, x.count(9));
        Check.is("one is made", 1, x.hammer(0, 0, 3));
    }

    private static void hammerWrongInputs() {
        InsideOutWords x = new InsideOutWords();
        Check.refuses("hammer(-1, 0, 1)", x, Check.NO_SUCH, () -> x.hammer(-1, 0, 1));
        Check.refuses("hammer(16, 0, 1)", x, Check.NO_SUCH, () -> x.hammer(16, 0, 1));
        Check.refuses("hammer(16, -1, 0)", x, Check.NO_SUCH, () -> x.hammer(16, -1, 0));
        Check.refuses("hammer(0, -1, 1)", x, Check.BAD, () -> x.hammer(0, -1, 1));
        Check.refuses("hammer(0, 4096, 1)", x, Check.BAD, () -> x.hammer(0, 4096, 1));
        Check.refuses("hammer(0, 0, 0)", x, Check.BAD, () -> x.hammer(0, 0, 0));
        Check.refuses("hammer(0, 0, 501)", x, Check.BAD, () -> x.hammer(0, 0, 501));
        for (int far : Check.FAR) {
            Check.refuses("hammer far word", x, Check.NO_SUCH, () -> x.hammer(far, 0, 1));
            Check.refuses("hammer far number", x, Check.BAD, () -> x.hammer(0, far, 1));
            Check.refuses("hammer far times", x, Check.BAD, () -> x.hammer(0, 0, far));
        }
    }

    private static void exchange() {
        InsideOutWords x = new InsideOutWords();
        x.set(1, 2);
        x.write(0, 5);
        x.write(0, 6);
        x.write(15, 9);
        Check.is("hot", 1, x.word(0, 4));
        Check.is("the slot that the first one has then", 15, x.exchange(0, 15));
        Check.is("the other one's slot", 0, x.word(15, 0));
        Check.is("each reads what the other one read", 9, x.read(0));
        Check.is("and so the other", 6, x.read(15));
        Check.is("the slot tells it", 0, x.slot(15, 0));
        Check.is("the other slot tells it", 15, x.slot(0, 0));
        Check.is("written 0 times", 0, x.word(0, 1));
        Check.is("the other written 0 times", 0, x.word(15, 1));
        Check.is("not hot any more", 0, x.word(0, 4));
        Check.is("writes so far", 2, x.word(0, 2));
        Check.is("no move", 0, x.word(0, 3));
        Check.is("no moves", 0, x.count(3));
        Check.is("no writes", 3, x.count(0));
        Check.is("saved", 5, x.count(9));
        x.undo();
        Check.is("undone", 6, x.read(0));
        Check.is("undone writes", 2, x.word(0, 1));
        Check.is("with itself", 0, x.exchange(0, 0));
        Check.is("with itself written 0 times", 0, x.word(0, 1));
        Check.is("with itself it stays", 0, x.slot(0, 0));
        Check.is("with itself saved", 5, x.count(9));
        Check.refuses("exchange(-1, 0)", x, Check.NO_SUCH, () -> x.exchange(-1, 0));
        Check.refuses("exchange(0, -1)", x, Check.NO_SUCH, () -> x.exchange(0, -1));
        Check.refuses("exchange(16, 0)", x, Check.NO_SUCH, () -> x.exchange(16, 0));
        Check.refuses("exchange(0, 16)", x, Check.NO_SUCH, () -> x.exchange(0, 16));
        for (int far : Check.FAR) {
            Check.refuses("exchange far word", x, Check.NO_SUCH, () -> x.exchange(far, 0));
            Check.refuses("exchange far other", x, Check.NO_SUCH, () -> x.exchange(0, far));
        }
    }

    private static void wear() {
        InsideOutWords x = new InsideOutWords();
        Check.is("by 1", 1, x.wear(0, 0, 1));
        Check.is("by 999", 1000, x.wear(0, 0, 999));
        Check.is("the last cell", 7, x.wear(17, 12, 7));
        Check.is("it is kept", 7, x.wearOf(17, 12));
        Check.is("not another cell", 0, x.wearOf(17, 11));
        Check.is("saved", 3, x.count(9));
        Check.is("no changes", 0, x.count(1));
        x.undo();
        Check.is("undone", 0, x.wearOf(17, 12));
        for (int i = 0; i < 99; i++) {
            x.wear(0, 0, 999);
        }
        Check.is("much", 99901, x.wearOf(0, 0));
        Check.refuses("above 99999", x, Check.STATE, () -> x.wear(0, 0, 99));
        Check.is("99999", 99999, x.wear(0, 0, 98));
        Check.refuses("one more", x, Check.STATE, () -> x.wear(0, 0, 1));
        Check.refuses("no such cell first", x, Check.NO_SUCH, () -> x.wear(0, 13, 1000));
        Check.refuses("out of range ahead of too great", x, Check.BAD, () -> x.wear(0, 0, 1000));
        Check.is("another cell", 999, x.wear(0, 1, 999));
    }

    private static void wearWrongInputs() {
        InsideOutWords x = new InsideOutWords();
        Check.refuses("wear(-1, 0, 1)", x, Check.NO_SUCH, () -> x.wear(-1, 0, 1));
        Check.refuses("wear(18, 0, 1)", x, Check.NO_SUCH, () -> x.wear(18, 0, 1));
        Check.refuses("wear(0, -1, 1)", x, Check.NO_SUCH, () -> x.wear(0, -1, 1));
        Check.refuses("wear(0, 13, 1)", x, Check.NO_SUCH, () -> x.wear(0, 13, 1));
        Check.refuses("wear(1, -1, 1)", x, Check.NO_SUCH, () -> x.wear(1, -1, 1));
        Check.refuses("wear(0, 0, 0)", x, Check.BAD, () -> x.wear(0, 0, 0));
        Check.refuses("wear(0, 0, -1)", x, Check.BAD, () -> x.wear(0, 0, -1));
        Check.refuses("wear(0, 0, 1000)", x, Check.BAD, () -> x.wear(0, 0, 1000));
        for (int far : Check.FAR) {
            Check.refuses("wear far slot", x, Check.NO_SUCH, () -> x.wear(far, 0, 1));
            Check.refuses("wear far cell", x, Check.NO_SUCH, () -> x.wear(0, far, 1));
            Check.refuses("wear far by", x, Check.BAD, () -> x.wear(0, 0, far));
        }
    }

    private static void set() {
        InsideOutWords x = new InsideOutWords();
        Check.is("the first", 20, x.set(0, 1));
        Check.is("the least", 1, x.set(0, 999));
        Check.is("the greatest", 999, x.set(0, 5));
        Check.is("the same is saved too", 5, x.set(0, 5));
        Check.is("saved", 4, x.count(9));
        Check.is("setting 1 at first", 0, x.set(1, 99));
        Check.is("setting 1, the greatest", 99, x.set(1, 0));
        Check.is("setting 1, the least", 0, x.set(1, 3));
        Check.is("setting 0 is its own", 5, x.setting(0));
        x.undo();
        Check.is("undone", 0, x.setting(1));
    }

    private static void stuckNoMore() {
        InsideOutWords x = new InsideOutWords();
        x.set(0, 3);
        x.wear(2, 4, 3);
        Check.is("stuck", 16, x.slot(2, 4));
        x.set(0, 4);
        Check.is("not stuck any more", 0, x.slot(2, 4));
        Check.is("it changes", 1, x.write(2, 16));
        Check.is("stuck again", 16, x.slot(2, 4));
        x.write(5, 1);
        x.set(1, 1);
        Check.is("hot by the setting", 1, x.word(5, 4));
        x.set(1, 2);
        Check.is("not hot by the setting", 0, x.word(5, 4));
    }

    private static void setWrongInputs() {
        InsideOutWords x = new InsideOutWords();
        Check.refuses("set(-1, 1)", x, Check.NO_SUCH, () -> x.set(-1, 1));
        Check.refuses("set(2, 1)", x, Check.NO_SUCH, () -> x.set(2, 1));
        Check.refuses("set(2, -1)", x, Check.NO_SUCH, () -> x.set(2, -1));
        Check.refuses("set(0, 0)", x, Check.BAD, () -> x.set(0, 0));
        Check.refuses("set(0, 1000)", x, Check.BAD, () -> x.set(0, 1000));
        Check.refuses("set(1, -1)", x, Check.BAD, () -> x.set(1, -1));
        Check.refuses("set(1, 100)", x, Check.BAD, () -> x.set(1, 100));
        for (int far : Check.FAR) {
            Check.refuses("set far setting", x, Check.NO_SUCH, () -> x.set(far, 1));
            Check.refuses("set far value of 0", x, Check.BAD, () -> x.set(0, far));
            Check.refuses("set far value of 1", x, Check.BAD, () -> x.set(1, far));
        }
    }
}
