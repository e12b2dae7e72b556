/** Promises 12 to 17: read, word, slot, wearOf, count, setting. */
public final class LooksTest {
    public static void main(String[] args) {
        read();
        word();
        slot();
        slotWear();
        wearOf();
        countOfWrites();
        countOfCells();
        countFreeSlot();
        countOfWords();
        countSavedStates();
        setting();
        wrongInputs();
        Check.end();
    }

    private static void read() {
        InsideOutWords x = new InsideOutWords();
        for (int word = 0; word < 16; word++) {
            x.write(word, word * 273);
        }
        for (int word = 0; word < 16; word++) {
            Check.is("read(" + word + ")", word * 273, x.read(word));
        }
        for (int number = 0; number < 240; number++) {
            InsideOutWords y = new InsideOutWords();
            int here = number * 17 + 15;
            y.write(3, here);
            Check.is("what is written is read", here, y.read(3));
            y.write(3, here ^ 2730);
            Check.is("what is written over is read", here ^ 2730, y.read(3));
        }
    }

    private static void word() {
        InsideOutWords x = new InsideOutWords();
        x.set(1, 3);
        for (int i = 0; i < 6; i++) {
            x.write(15, i);
        }
        Check.is("slot", 16, x.word(15, 0));
        Check.is("writes since it came", 2, x.word(15, 1));
        Check.is("writes so far", 6, x.word(15, 2));
        Check.is("moves so far", 1, x.word(15, 3));
        Check.is("not hot", 0, x.word(15, 4));
        x.write(15, 6);
        Check.is("hot", 1, x.word(15, 4));
        Check.is("another word's moves", 0, x.word(14, 3));
        Check.is("another word's writes", 0, x.word(14, 2));
        x.set(1, 0);
        Check.is("never hot with 0", 0, x.word(15, 4));
    }

    private static void slot() {
        InsideOutWords x = new InsideOutWords();
        x.write(4, 2050);
        x.write(5, 4094);
        Check.is("word", 4, x.slot(4, 0));
        Check.is("cells", 2050, x.slot(4, 1));
        Check.is("cell 12", 0, x.slot(4, 2));
        Check.is("cells turned", 1, x.slot(5, 1));
        Check.is("cell 12 turned", 1, x.slot(5, 2));
        Check.is("wear together", 2, x.slot(5, 3));
        Check.is("a free slot", InsideOutWords.NONE, x.slot(17, 0));
        x.set(0, 1);
        Check.is("stuck cells", 4097, x.slot(5, 4));
        Check.is("stuck cells plain", 2050, x.slot(4, 4));
        Check.is("the greatest wear", 1, x.slot(5, 5));
        Check.is("of a slot without wear", 0, x.slot(6, 5));
    }

    private static void slotWear() {
        InsideOutWords x = new InsideOutWords();
        x.wear(9, 0, 19);
        x.wear(9, 6, 20);
        x.wear(9, 12, 21);
        Check.is("wear together", 60, x.slot(9, 3));
        Check.is("stuck from 20", 64 + 4096, x.slot(9, 4));
        Check.is("the greatest", 21, x.slot(9, 5));
        Check.is("not the next slot", 0, x.slot(10, 3));
        Check.is("not the former slot", 0, x.slot(8, 3));
        for (int cell = 0; cell < 13; cell++) {
            x.wear(17, cell, 999);
        }
        Check.is("all together", 13 * 999, x.slot(17, 3));
        Check.is("all stuck", 8191, x.slot(17, 4));
    }

    private static void wearOf() {
        InsideOutWords x = new InsideOutWords();
        x.write(2, 4094);
        x.write(2, 0);
        x.write(2, 1);
        Check.is("cell 0", 3, x.wearOf(2, 0));
        Check.is("cell 12", 2, x.wearOf(2, 12));
        Check.is("cell 1", 0, x.wearOf(2, 1));
        x.wear(17, 12, 999);
        Check.is("the last", 999, x.wearOf(17, 12));
        Check.is("the first", 0, x.wearOf(0, 0));
    }

    private static void countOfWrites() {
        InsideOutWords x = new InsideOutWords();
        x.set(0, 1);
        x.write(0, 4095);
        x.write(0, 4095);
        x.write(1, 7);
        Check.is("writes", 3, x.count(0));
        Check.is("changes", 4, x.count(1));
        Check.is("plain changes", 15, x.count(2));
        Check.is("no moves", 0, x.count(3));
        Check.is("turned writes, also without changes", 2, x.count(4));
        Check.wearMask(x, 1, 8 | 4096);
        x.write(1, 8);
        Check.is("a move", 1, x.count(3));
        Check.is("its writes", 4, x.count(0));
        Check.is("its changes", 5, x.count(1));
        Check.is("its plain changes", 19, x.count(2));
        x.exchange(0, 1);
        x.wear(3, 3, 3);
        Check.is("no writes by exchange and wear", 4, x.count(0));
        Check.is("no changes by exchange and wear", 5, x.count(1));
    }

    private static void countOfCells() {
        InsideOutWords x = new InsideOutWords();
        x.wear(0, 0, 20);
        x.wear(0, 12, 20);
        x.wear(17, 5, 21);
        x.wear(16, 5, 19);
        Check.is("stuck cells", 3, x.count(5));
        x.set(0, 19);
        Check.is("one more", 4, x.count(5));
        x.set(0, 21);
        Check.is("fewer", 1, x.count(5));
    }

    private static void countFreeSlot() {
        InsideOutWords x = new InsideOutWords();
        Check.is("the lowest", 16, x.count(6));
        x.wear(16, 0, 2);
        Check.is("the least wear", 17, x.count(6));
        x.wear(17, 1, 1);
        x.wear(17, 2, 1);
        Check.is("the lowest of both", 16, x.count(6));
        x.wear(17, 2, 999);
        x.wear(16, 12, 999);
        Check.is("also with stuck cells", 16, x.count(6));
        x.set(1, 1);
        x.write(5, 1);
        x.write(5, 1);
        Check.is("a slot that was left", 5, x.count(6));
    }

    private static void countOfWords() {
        InsideOutWords x = new InsideOutWords();
        x.write(0, 4095);
        x.write(0, 4095);
        x.write(15, 4000);
        x.write(7, 1);
        Check.is("none hot", 0, x.count(7));
        x.set(1, 1);
        Check.is("three hot", 3, x.count(7));
        x.set(1, 2);
        Check.is("one hot", 1, x.count(7));
        Check.is("the sum", 8096, x.count(8));
    }

    private static void countSavedStates() {
        InsideOutWords x = new InsideOutWords();
        Check.is("none", 0, x.count(9));
        x.write(0, 0);
        x.hammer(0, 0, 1);
        x.exchange(0, 0);
        Check.is("three", 3, x.count(9));
        x.wear(0, 0, 1);
        x.set(0, 20);
        Check.type(x, "a=0");
        x.writeAll();
        Check.is("six", 6, x.count(9));
        x.write(0, 0);
        Check.is("at most six", 6, x.count(9));
        x.life(0, 0);
        x.ifWritten(0, 0);
        x.costliest(0);
        x.cost(0, 0);
        x.undo();
        Check.is("five", 5, x.count(9));
        x.digest();
        Check.is("still five", 5, x.count(9));
    }

    private static void setting() {
        InsideOutWords x = new InsideOutWords();
        x.set(0, 77);
        x.set(1, 66);
        Check.is("setting 0", 77, x.setting(0));
        Check.is("setting 1", 66, x.setting(1));
    }

    private static void wrongInputs() {
        InsideOutWords x = new InsideOutWords();
        x.write(0, 1);
        int[] noWord = {-1, 16};
        for (int word : noWord) {
            Check.refuses("read", x, Check.NO_SUCH, () -> x.read(word));
            Check.refuses("word", x, Check.NO_SUCH, () -> x.word(word, 0));
            Check.refuses("word, both", x, Check.NO_SUCH, () -> x.word(word, 5));
        }
        int[] noSlot = {-1, 18};
        for (int slot : noSlot) {
            Check.refuses("slot", x, Check.NO_SUCH, () -> x.slot(slot, 0));
            Check.refuses("slot, both", x, Check.NO_SUCH, () -> x.slot(slot, 6));
            Check.refuses("wearOf", x, Check.NO_SUCH, () -> x.wearOf(slot, 0));
        }
        Check.refuses("word what -1", x, Check.BAD, () -> x.word(0, -1));
        Check.refuses("word what 5", x, Check.BAD, () -> x.word(15, 5));
        Check.refuses("slot what -1", x, Check.BAD, () -> x.slot(0, -1));
        Check.refuses("slot what 6", x, Check.BAD, () -> x.slot(17, 6));
        Check.refuses("wearOf cell -1", x, Check.NO_SUCH, () -> x.wearOf(1, -1));
        Check.refuses("wearOf cell 13", x, Check.NO_SUCH, () -> x.wearOf(0, 13));
        Check.refuses("count -1", x, Check.BAD, () -> x.count(-1));
        Check.refuses("count 10", x, Check.BAD, () -> x.count(10));
        Check.refuses("setting -1", x, Check.NO_SUCH, () -> x.setting(-1));
        Check.refuses("setting 2", x, Check.NO_SUCH, () -> x.setting(2));
        for (int far : Check.FAR) {
            Check.refuses("read far", x, Check.NO_SUCH, () -> x.read(far));
            Check.refuses("word far", x, Check.NO_SUCH, () -> x.word(far, 0));
            Check.refuses("word far what", x, Check.BAD, () -> x.word(0, far));
            Check.refuses("slot far", x, Check.NO_SUCH, () -> x.slot(far, 0));
            Check.refuses("slot far what", x, Check.BAD, () -> x.slot(0, far));
            Check.refuses("wearOf far", x, Check.NO_SUCH, () -> x.wearOf(far, 0));
            Check.refuses("wearOf far cell", x, Check.NO_SUCH, () -> x.wearOf(0, far));
            Check.refuses("count far", x, Check.BAD, () -> x.count(far));
            Check.refuses("setting far", x, Check.NO_SUCH, () -> x.setting(far));
        }
    }
}
