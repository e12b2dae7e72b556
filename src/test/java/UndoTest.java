import java.util.ArrayList;
import java.util.List;

/** Terms, Undo: which calls save a state, what a saved state holds, and how many are kept. */
public final class UndoTest {
    private interface Act {
        void on(InsideOutWords x);
    }

    public static void main(String[] args) {
        eachUndoableCallSavesOne();
        callsThatChangeNothingSaveOne();
        callsThatMakeNoWriteSaveOne();
        otherCallsSaveNone();
        callsThatThrowSaveNone();
        allIsRestored();
        allThatIsCountedIsRestored();
        theBufferIsNotRestored();
        undoneStatesAreGone();
        sixAreKept();
        theOldestIsDroppedFirst();
        manyTimesRound();
        Check.end();
    }

    /** One state more is saved, and undo brings back what was before. */
    private static void savesOne(String what, InsideOutWords x, Act act) {
        int saved = x.count(9);
        long before = x.digest();
        act.on(x);
        Check.is(what + " saves one state", saved + 1, x.count(9));
        Check.is(what + " is undone as one", saved, x.undo());
        Check.is(what + " is undone", before, x.digest());
    }

    /** "Each method that is marked "undoable" and does not throw an exception saves the state from before it." */
    private static void eachUndoableCallSavesOne() {
        InsideOutWords x = new InsideOutWords();
        x.write(1, 99);
        savesOne("write", x, y -> y.write(0, 7));
        savesOne("hammer once", x, y -> y.hammer(0, 7, 1));
        savesOne("hammer 500 times", x, y -> y.hammer(0, 7, 500));
        savesOne("exchange", x, y -> y.exchange(0, 1));
        savesOne("wear", x, y -> y.wear(0, 0, 999));
        savesOne("set 0", x, y -> y.set(0, 1));
        savesOne("set 1", x, y -> y.set(1, 99));
        InsideOutWords z = new InsideOutWords();
        Check.type(z, "a=1,2,3;b=4;c=5");
        Check.is("five writes", 5, z.writeAll());
        Check.is("writeAll saves one state", 1, z.count(9));
        Check.is("writeAll is undone as one", 0, z.undo());
        Check.alike("writeAll is undone", new InsideOutWords(), z);
    }

    /** "(Also if it changes nothing.)" */
    private static void callsThatChangeNothingSaveOne() {
        InsideOutWords x = new InsideOutWords();
        savesOne("set 0 to what it is", x, y -> y.set(0, 20));
        savesOne("set 1 to what it is", x, y -> y.set(1, 0));
        savesOne("exchange with itself", x, y -> y.exchange(0, 0));
        savesOne("a write without changes", x, y -> y.write(3, 0));
    }

    /** The last wear of barred() is undone first, so that there is room for one more saved state. */
    private static void callsThatMakeNoWriteSaveOne() {
        InsideOutWords x = Check.barred();
        x.set(0, 1);
        x.undo();
        savesOne("hammer without a write", x, y -> Check.is("writes", 0, y.hammer(0, 1, 500)));
        InsideOutWords z = Check.barred();
        z.set(0, 1);
        z.undo();
        Check.type(z, "a=1;b=1");
        Check.is("none is made", 0, z.writeAll());
        Check.is("writeAll without a write saves one state", 6, z.count(9));
        Check.is("and is undone", 5, z.undo());
    }

    private static void otherCallsSaveNone() {
        InsideOutWords x = new InsideOutWords();
        lookAtAll(x);
        Check.is("none is saved", 0, x.count(9));
        for (int value = 1; value <= 6; value++) {
            x.set(0, value);
        }
        lookAtAll(x);
        Check.is("six are saved", 6, x.count(9));
        for (int left = 5; left >= 0; left--) {
            Check.is("left", left, x.undo());
        }
        Check.is("the oldest one is still there", 20, x.setting(0));
        lookAtAll(x);
        Check.refuses("undo saves none either", x, Check.STATE, () -> x.undo());
    }

    private static void lookAtAll(InsideOutWords x) {
        x.append('a');
        x.firstError();
        x.clearBuffer();
        x.read(0);
        x.word(0, 0);
        x.slot(0, 0);
        x.wearOf(0, 0);
        x.count(0);
        x.setting(0);
        x.cost(0, 7);
        x.ifWritten(0, 7);
        x.costliest(0);
        x.life(0, 7);
        x.share();
        x.digest();
    }

    private static void callsThatThrowSaveNone() {
        InsideOutWords x = new InsideOutWords();
        throwOfAll(x);
        Check.is("none is saved", 0, x.count(9));
        InsideOutWords y = Check.barred();
        throwOfAll(y);
        Check.refuses("a refused write", y, Check.STATE, () -> y.write(0, 1));
        for (int left = 5; left >= 0; left--) {
            Check.is("left", left, y.undo());
        }
        Check.is("the oldest one is still there", 4096 + 2 + 1, y.slot(0, 4));
        Check.is("and no older one", 0, y.slot(16, 4));
    }

    private static void throwOfAll(InsideOutWords x) {
        Check.refuses("write", x, Check.BAD, () -> x.write(0, 4096));
        Check.refuses("hammer", x, Check.BAD, () -> x.hammer(0, 0, 501));
        Check.refuses("exchange", x, Check.NO_SUCH, () -> x.exchange(0, 16));
        Check.refuses("wear", x, Check.BAD, () -> x.wear(0, 0, 1000));
        Check.refuses("set", x, Check.BAD, () -> x.set(0, 1000));
        Check.refuses("writeAll", x, Check.BAD, () -> x.writeAll());
    }

    /** "All, also what is counted so far": beside an object that gets the call and undo, one that gets neither. */
    private static void allIsRestored() {
        Act[] acts = {
            x -> x.write(3, 2222), x -> x.write(2, 2222), x -> x.hammer(3, 1000, 500), x -> x.exchange(2, 5),
            x -> x.wear(16, 4, 77), x -> x.set(0, 2), x -> x.set(1, 0), x -> writes(x),
        };
        for (int i = 0; i < acts.length; i++) {
            InsideOutWords due = used();
            InsideOutWords x = used();
            acts[i].on(x);
            x.undo();
            Check.alike("undone call " + i, due, x);
            Check.is("undone call " + i + ", then hammer", due.hammer(2, 9, 90), x.hammer(2, 9, 90));
            Check.is("undone call " + i + ", then digest", due.digest(), x.digest());
        }
    }

    private static void writes(InsideOutWords x) {
        Check.type(x, "a=1,2,3,4;p=4095");
        Check.is("writes", 5, x.writeAll());
    }

    /** The word 2 is hot, and has moved. */
    private static InsideOutWords used() {
        InsideOutWords x = new InsideOutWords();
        x.set(1, 3);
        x.hammer(2, 100, 7);
        x.write(5, 4000);
        return x;
    }

    private static void allThatIsCountedIsRestored() {
        InsideOutWords x = new InsideOutWords();
        x.set(1, 1);
        x.write(0, 7);
        int[] due = {1, 3, 3, 0, 0, 0, 16, 1, 7, 2};
        x.hammer(0, 4000, 9);
        for (int what = 0; what < 9; what++) {
            Check.is("count(" + what + ") is another", 1, x.count(what) != due[what] || what == 5 || what == 7 ? 1 : 0);
        }
        x.undo();
        for (int what = 0; what < 10; what++) {
            Check.is("count(" + what + ") is restored", due[what], x.count(what));
        }
        int[] properties = {0, 1, 1, 0, 1};
        for (int what = 0; what < 5; what++) {
            Check.is("word(0, " + what + ") is restored", properties[what], x.word(0, what));
        }
    }

    /** "But the buffer and the saved states." */
    private static void theBufferIsNotRestored() {
        InsideOutWords x = new InsideOutWords();
        Check.type(x, "a=1");
        x.write(0, 9);
        Check.type(x, ",2");
        x.undo();
        Check.is("what was typed since stays", 5, x.clearBuffer());
        Check.type(x, "a=1");
        x.write(0, 9);
        x.clearBuffer();
        x.undo();
        Check.is("what was cleared since does not come back", 0, x.clearBuffer());
        Check.type(x, "a=1");
        x.writeAll();
        x.undo();
        Check.is("what writeAll cleared does not come back", 0, x.clearBuffer());
    }

    /** Promise 11: "Restores the latest saved state, and drops it." */
    private static void undoneStatesAreGone() {
        InsideOutWords x = new InsideOutWords();
        x.set(0, 1);
        x.set(0, 2);
        x.set(0, 3);
        Check.is("two left", 2, x.undo());
        Check.is("the latest", 2, x.setting(0));
        Check.is("one left", 1, x.undo());
        Check.is("the one before", 1, x.setting(0));
        x.set(0, 4);
        Check.is("a new one", 1, x.undo());
        Check.is("not one that was dropped", 1, x.setting(0));
        Check.is("none left", 0, x.undo());
        Check.is("the first", 20, x.setting(0));
        Check.refuses("there is none", x, Check.STATE, () -> x.undo());
    }

    /** "At most 6 states are saved": with six calls all of them can be undone. */
    private static void sixAreKept() {
        InsideOutWords x = new InsideOutWords();
        for (int value = 1; value <= 6; value++) {
            x.set(0, value);
            Check.is("saved", value, x.count(9));
        }
        for (int left = 5; left >= 0; left--) {
            Check.is("left", left, x.undo());
            Check.is("the value", left == 0 ? 20 : left, x.setting(0));
        }
        Check.refuses("there is none", x, Check.STATE, () -> x.undo());
    }

    /** "The oldest one is dropped first": with seven calls the first one can't be undone. */
    private static void theOldestIsDroppedFirst() {
        InsideOutWords x = new InsideOutWords();
        for (int value = 1; value <= 7; value++) {
            x.set(0, value);
        }
        Check.is("saved", 6, x.count(9));
        for (int left = 5; left >= 0; left--) {
            Check.is("left", left, x.undo());
            Check.is("the value", left + 1, x.setting(0));
        }
        Check.refuses("there is none", x, Check.STATE, () -> x.undo());
        Check.is("the first call stands", 1, x.setting(0));
    }

    /** More calls and fewer calls of undo in turns, beside a list that drops its first. */
    private static void manyTimesRound() {
        InsideOutWords x = new InsideOutWords();
        List<Integer> saved = new ArrayList<>();
        int value = 20;
        for (int i = 0; i < 510; i++) {
            boolean back = i % 13 > 3 + i / 13 % 7 && !saved.isEmpty();
            if (back) {
                value = saved.remove(saved.size() - 1);
                Check.is("left in call " + i, saved.size(), x.undo());
                continue;
            }
            saved.add(value);
            if (saved.size() > 6) {
                saved.remove(0);
            }
            Check.is("the value in call " + i, value, x.set(0, 1 + i));
            value = 1 + i;
        }
        Check.is("the last value", value, x.setting(0));
    }
}
