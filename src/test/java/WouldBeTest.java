/** Promises 18 to 23: cost, ifWritten, costliest, life, share, digest. */
public final class WouldBeTest {
    public static void main(String[] args) {
        cost();
        ifWritten();
        ifWrittenWhenHot();
        costliest();
        costliestOfStuckSlots();
        life();
        lifeIsAsHammer();
        lifeChangesNothing();
        share();
        digest();
        digestOfAShareOfTwo();
        digestOfTheBuffer();
        digestByItsList();
        wrongInputs();
        Check.end();
    }

    private static void cost() {
        InsideOutWords x = new InsideOutWords();
        Check.is("nothing changes", 0, x.cost(0, 0));
        Check.is("turned", 1, x.cost(17, 4095));
        Check.is("plain", 6, x.cost(3, 63));
        Check.is("seven bits", 6, x.cost(3, 127));
        Check.is("eight bits", 5, x.cost(3, 255));
        x.write(3, 4095);
        Check.is("from the turned way", 1, x.cost(3, 4094));
        Check.is("back to plain", 1, x.cost(3, 0));
        x.set(0, 1);
        x.wear(4, 0, 1);
        Check.is("the other way", 12, x.cost(4, 1));
        x.wear(4, 12, 1);
        Check.is("barred", InsideOutWords.NONE, x.cost(4, 1));
        Check.is("not barred", 11, x.cost(4, 4094));
        Check.is("nothing was written", 1, x.count(0));
        Check.is("nothing was worn", 2, x.slot(4, 3));
    }

    private static void ifWritten() {
        InsideOutWords x = new InsideOutWords();
        Check.is("its own slot", 15, x.ifWritten(15, 4095));
        x.set(0, 1);
        Check.wearMask(x, 0, 1 | 4096);
        Check.is("the free slot", 16, x.ifWritten(0, 1));
        Check.is("what it takes", 0, x.ifWritten(0, 2));
        Check.wearMask(x, 16, 2);
        Check.is("the least worn", 17, x.ifWritten(0, 1));
        Check.wearMask(x, 17, 1 | 4096);
        Check.is("the one that does not bar", 16, x.ifWritten(0, 1));
        Check.wearMask(x, 16, 1 | 4096);
        Check.is("refused", InsideOutWords.NONE, x.ifWritten(0, 1));
        Check.is("another word", 1, x.ifWritten(1, 1));
        Check.is("nothing was written", 0, x.count(0));
        Check.is("nothing moved", 0, x.word(0, 0));
    }

    private static void ifWrittenWhenHot() {
        InsideOutWords x = new InsideOutWords();
        x.set(0, 1);
        x.set(1, 1);
        x.write(0, 2);
        Check.is("hot", 16, x.ifWritten(0, 2));
        Check.wearMask(x, 16, 1 | 4096);
        Check.wearMask(x, 17, 1 | 4096);
        Check.is("all free slots bar it", 0, x.ifWritten(0, 3));
        Check.is("the free slots take it", 16, x.ifWritten(0, 4));
        Check.wearMask(x, 0, 1 | 4096);
        Check.is("all bar it", InsideOutWords.NONE, x.ifWritten(0, 3));
    }

    private static void costliest() {
        InsideOutWords x = new InsideOutWords();
        Check.is("of no cell held", 63, x.costliest(0));
        x.write(1, 63);
        Check.is("of six bits", 0, x.costliest(1));
        x.write(2, 127);
        Check.is("of seven bits", 0, x.costliest(2));
        x.write(3, 31);
        Check.is("of five bits", 32, x.costliest(3));
        x.write(4, 255);
        Check.is("of eight bits", 1, x.costliest(4));
        x.write(15, 4095);
        Check.is("of twelve bits", 31, x.costliest(15));
        for (int number = 0; number < 4096; number += 5) {
            InsideOutWords y = new InsideOutWords();
            PlainModel model = new PlainModel();
            y.write(6, number);
            model.write(6, number);
            Check.is("costliest from " + number, model.costliest(6), y.costliest(6));
        }
    }

    /** Every 13th of all sets of stuck cells, an object for each, so that none gets more than 512 calls. */
    private static void costliestOfStuckSlots() {
        for (int stuck = 0; stuck < 8192; stuck += 13) {
            InsideOutWords x = new InsideOutWords();
            PlainModel model = new PlainModel();
            int number = stuck * 7 & 4095;
            x.write(9, number);
            model.write(9, number);
            x.set(0, 7);
            model.set(0, 7);
            for (int cell = 0; cell < 13; cell++) {
                if ((stuck >> cell & 1) != 0) {
                    x.wear(9, cell, 7);
                    model.wear(9, cell, 7);
                }
            }
            Check.is("costliest with stuck cells " + stuck, model.costliest(9), x.costliest(9));
        }
        InsideOutWords y = new InsideOutWords();
        y.write(0, 77);
        y.set(0, 1);
        for (int cell = 0; cell < 13; cell++) {
            y.wear(0, cell, 1);
        }
        Check.is("all cells are stuck", 77, y.costliest(0));
    }

    private static void life() {
        InsideOutWords x = new InsideOutWords();
        x.set(0, 1);
        Check.is("three slots", 7, x.life(0, 0));
        Check.is("as hammer does", 7, x.hammer(0, 0, 500));
        Check.is("the number that it has, once", 1, x.life(0, 0));
        Check.is("the other number", 0, x.life(0, 4095));
        x.set(0, 999);
        Check.is("at most 500", 500, x.life(0, 4095));
    }

    /** "How many writes hammer() would make with 500 times": from none to 500. */
    private static void lifeIsAsHammer() {
        int[] bears = {1, 2, 3, 20, 30, 77, 78, 79, 83, 84, 200, 999};
        for (int setting : bears) {
            for (int times = 0; times < 4; times++) {
                InsideOutWords x = new InsideOutWords();
                x.set(0, setting);
                x.set(1, times * times);
                x.write(4, 819);
                x.wear(16, 3, 1);
                int due = x.life(4, 100);
                Check.is("life with " + setting + " and " + times * times, due, x.hammer(4, 100, 500));
                int rest = x.life(4, 100);
                Check.is("life of what is left", rest, x.hammer(4, 100, 500));
            }
        }
        InsideOutWords barred = Check.barred();
        Check.is("none", 0, barred.life(0, 1));
        Check.is("none by hammer", 0, barred.hammer(0, 1, 500));
        Check.is("one", 1, barred.life(0, 0));
        Check.is("one by hammer", 1, barred.hammer(0, 0, 500));
    }

    private static void lifeChangesNothing() {
        InsideOutWords x = new InsideOutWords();
        x.set(0, 3);
        x.set(1, 2);
        x.write(0, 5);
        long before = x.digest();
        long first = x.life(0, 819);
        Check.is("the same again", first, x.life(0, 819));
        Check.is("the same for a word like it", x.life(1, 819), x.life(2, 819));
        Check.is("nothing is changed", before, x.digest());
        Check.is("its slot", 0, x.word(0, 0));
        Check.is("no writes", 1, x.count(0));
        Check.is("saved states", 3, x.count(9));
        x.undo();
        Check.is("what is saved is whole", 0, x.read(0));
    }

    private static void share() {
        InsideOutWords x = new InsideOutWords();
        Check.isDouble("at first", 1.0, x.share());
        x.write(0, 0);
        Check.isDouble("nothing by writing plainly", 1.0, x.share());
        x.write(0, 4095);
        Check.isDouble("one for twelve", 1.0 / 12.0, x.share());
        x.write(1, 7);
        Check.isDouble("four for fifteen", 4.0 / 15.0, x.share());
        InsideOutWords y = new InsideOutWords();
        y.set(0, 1);
        y.wear(0, 0, 1);
        y.write(0, 1);
        Check.isDouble("more than plain", 12.0, y.share());
        InsideOutWords z = new InsideOutWords();
        z.write(0, 4095);
        z.write(1, 4094);
        z.undo();
        Check.isDouble("undone", 1.0 / 12.0, z.share());
        z.write(2, 1);
        z.exchange(0, 2);
        z.wear(0, 0, 9);
        Check.isDouble("writes alone", 2.0 / 13.0, z.share());
    }

    private static void digest() {
        InsideOutWords x = new InsideOutWords();
        PlainModel model = new PlainModel();
        Check.is("at first", model.digest(), x.digest());
        Check.is("twice", model.digest(), x.digest());
        for (int i = 1; i <= 100; i++) {
            x.write(i % 16, i * 41 & 4095);
            model.write(i % 16, i * 41 & 4095);
            Check.is("digest " + i, model.digest(), x.digest());
        }
        InsideOutWords y = new InsideOutWords();
        PlainModel plain = new PlainModel();
        y.set(0, 1);
        plain.set(0, 1);
        for (int word = 0; word < 16; word++) {
            y.wear(word, word % 12, 1);
            plain.wear(word, word % 12, 1);
            y.write(word, 1 << word % 12);
            plain.write(word, 1 << word % 12);
            Check.is("digest with a share above 1", plain.digest(), y.digest());
        }
    }

    /** A share of 2.0, a power of two, is where its bits go over to the next exponent. */
    private static void digestOfAShareOfTwo() {
        InsideOutWords x = new InsideOutWords();
        PlainModel model = new PlainModel();
        x.set(0, 1);
        model.set(0, 1);
        x.wear(0, 0, 1);
        model.wear(0, 0, 1);
        int[] numbers = {1, 31, 31};
        for (int word = 0; word < 3; word++) {
            x.write(word, numbers[word]);
            model.write(word, numbers[word]);
        }
        Check.isDouble("twice as many as plainly", 2.0, x.share());
        Check.is("digest with a share of 2.0", model.digest(), x.digest());
    }

    private static void digestOfTheBuffer() {
        InsideOutWords x = new InsideOutWords();
        PlainModel model = new PlainModel();
        for (int code = 33; code <= 92; code++) {
            x.append(code);
            model.append(code);
            Check.is("digest with a text", model.digest(), x.digest());
        }
        x.clearBuffer();
        Check.is("digest of a cleared buffer", new PlainModel().digest(), x.digest());
    }

    /** Each value of the list, in its order, as the object itself answers it; some of them are NONE. */
    private static void digestByItsList() {
        digestByItsList("a new object", new InsideOutWords());
        InsideOutWords x = Check.barred();
        Check.type(x, "a=1,2~");
        x.write(9, 3000);
        x.set(1, 1);
        x.write(9, 64);
        for (int cell = 0; cell < 12; cell += 2) {
            x.wear(1, cell, 1);
        }
        Check.is("a write would be refused", InsideOutWords.NONE, x.ifWritten(0, 1365));
        Check.is("a slot bars a number", InsideOutWords.NONE, x.cost(0, 2730));
        digestByItsList("an object that was used", x);
    }

    private static long next(long hash, long value) {
        return 31 * hash + value;
    }

    private static void digestByItsList(String what, InsideOutWords x) {
        long hash = 2969;
        for (int i = 0; i <= 9; i++) {
            hash = next(hash, x.count(i));
        }
        hash = next(next(hash, x.setting(0)), x.setting(1));
        for (int word = 0; word < 16; word++) {
            hash = next(hash, x.read(word));
            for (int i = 0; i <= 4; i++) {
                hash = next(hash, x.word(word, i));
            }
            hash = next(next(hash, x.ifWritten(word, 1365)), x.costliest(word));
        }
        for (int slot = 0; slot < 18; slot++) {
            for (int i = 0; i <= 5; i++) {
                hash = next(hash, x.slot(slot, i));
            }
            hash = next(hash, x.cost(slot, 2730));
        }
        for (int cell = 0; cell < 13; cell++) {
            hash = next(hash, x.wearOf(0, cell));
        }
        hash = next(hash, x.life(0, 819));
        hash = next(hash, Double.doubleToLongBits(x.share()));
        String text = x.count(0) == 0 ? "" : "a=1,2~";
        hash = next(hash, text.length());
        for (int i = 0; i < text.length(); i++) {
            hash = next(hash, text.charAt(i));
        }
        Check.is("digest of " + what, hash, x.digest());
    }

    private static void wrongInputs() {
        InsideOutWords x = new InsideOutWords();
        x.write(0, 1);
        int[] noWord = {-1, 16};
        for (int word : noWord) {
            Check.refuses("ifWritten", x, Check.NO_SUCH, () -> x.ifWritten(word, 0));
            Check.refuses("ifWritten, both", x, Check.NO_SUCH, () -> x.ifWritten(word, 4096));
            Check.refuses("costliest", x, Check.NO_SUCH, () -> x.costliest(word));
            Check.refuses("life", x, Check.NO_SUCH, () -> x.life(word, 0));
            Check.refuses("life, both", x, Check.NO_SUCH, () -> x.life(word, -1));
        }
        Check.refuses("cost(-1, 0)", x, Check.NO_SUCH, () -> x.cost(-1, 0));
        Check.refuses("cost(18, 0)", x, Check.NO_SUCH, () -> x.cost(18, 0));
        Check.refuses("cost(18, 4096)", x, Check.NO_SUCH, () -> x.cost(18, 4096));
        int[] noNumber = {-1, 4096};
        for (int number : noNumber) {
            Check.refuses("cost number", x, Check.BAD, () -> x.cost(17, number));
            Check.refuses("ifWritten number", x, Check.BAD, () -> x.ifWritten(15, number));
            Check.refuses("life number", x, Check.BAD, () -> x.life(15, number));
        }
        for (int far : Check.FAR) {
            Check.refuses("cost far", x, Check.NO_SUCH, () -> x.cost(far, 0));
            Check.refuses("cost far number", x, Check.BAD, () -> x.cost(0, far));
            Check.refuses("ifWritten far", x, Check.NO_SUCH, () -> x.ifWritten(far, 0));
            Check.refuses("ifWritten far number", x, Check.BAD, () -> x.ifWritten(0, far));
            Check.refuses("costliest far", x, Check.NO_SUCH, () -> x.costliest(far));
            Check.refuses("life far", x, Check.NO_SUCH, () -> x.life(far, 0));
            Check.refuses("life far number", x, Check.BAD, () -> x.life(0, far));
        }
    }
}
