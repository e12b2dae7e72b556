/**
 * Exceptions: "A call that throws an exception changes nothing. If several exceptions apply, the one that is named first
 * in the throws clause is thrown." Here for the exceptions that depend on what an object holds; ArgumentsTest has those
 * of the arguments alone.
 */
public final class RefusalsTest {
    public static void main(String[] args) {
        aRefusedWriteComesLast();
        aWearTooGreatComesLast();
        aFullBufferComesLast();
        refusalsChangeNothingOfANewObject();
        refusalsChangeNothingOfAFullObject();
        Check.end();
    }

    private static void aRefusedWriteComesLast() {
        InsideOutWords x = Check.barred();
        Check.refuses("a refused write", x, Check.STATE, () -> x.write(0, 1));
        Check.refuses("a number that all slots bar, and no word", x, Check.NO_SUCH, () -> x.write(16, 1));
        Check.refuses("no word and no number", x, Check.NO_SUCH, () -> x.write(-1, 4096));
        Check.refuses("no number, which all slots would bar", x, Check.BAD, () -> x.write(0, 4097));
        Check.refuses("no number below", x, Check.BAD, () -> x.write(0, -1));
        Check.is("what is not barred", 1, x.write(0, 4));
    }

    private static void aWearTooGreatComesLast() {
        InsideOutWords x = new InsideOutWords();
        for (int i = 0; i < 100; i++) {
            x.wear(17, 12, 999);
        }
        Check.is("the wear", 99900, x.wearOf(17, 12));
        Check.refuses("one too many", x, Check.STATE, () -> x.wear(17, 12, 100));
        Check.refuses("far too many", x, Check.STATE, () -> x.wear(17, 12, 999));
        Check.refuses("out of range, and too many", x, Check.BAD, () -> x.wear(17, 12, 1000));
        Check.refuses("far out of range, and too many", x, Check.BAD, () -> x.wear(17, 12, Integer.MAX_VALUE));
        Check.refuses("no slot, and too many", x, Check.NO_SUCH, () -> x.wear(18, 12, 999));
        Check.refuses("no cell, and too many", x, Check.NO_SUCH, () -> x.wear(17, 13, 999));
        Check.refuses("no cell, and out of range", x, Check.NO_SUCH, () -> x.wear(17, -1, 0));
        Check.is("as many as can be", 99999, x.wear(17, 12, 99));
        Check.refuses("any more", x, Check.STATE, () -> x.wear(17, 12, 1));
    }

    private static void aFullBufferComesLast() {
        InsideOutWords x = new InsideOutWords();
        for (int i = 0; i < 60; i++) {
            x.append('a');
        }
        Check.refuses("the least code", x, Check.STATE, () -> x.append(33));
        Check.refuses("the greatest code", x, Check.STATE, () -> x.append(126));
        Check.refuses("below the least code", x, Check.BAD, () -> x.append(32));
        Check.refuses("above the greatest code", x, Check.BAD, () -> x.append(127));
    }

    /** Beside an object that gets calls that throw, one that does not: they look the same to the last saved state. */
    private static void refusalsChangeNothingOfANewObject() {
        InsideOutWords x = new InsideOutWords();
        InsideOutWords untouched = new InsideOutWords();
        wrongArguments(x);
        throwsOf(x, Check.BAD, () -> x.writeAll());
        throwsOf(x, Check.STATE, () -> x.undo());
        sameToTheEnd("a new object", x, untouched);
    }

    private static void refusalsChangeNothingOfAFullObject() {
        InsideOutWords x = full();
        InsideOutWords untouched = full();
        Check.is("saved states", 6, x.count(9));
        Check.is("saved states of the other", 6, untouched.count(9));
        wrongArguments(x);
        throwsOf(x, Check.STATE, () -> x.write(0, 1));
        throwsOf(x, Check.STATE, () -> x.append('a'));
        throwsOf(x, Check.BAD, () -> x.writeAll());
        sameToTheEnd("a full object", x, untouched);
    }

    /** As many saved states as are kept, and one dropped; a full buffer, not complete; a write that is refused. */
    private static InsideOutWords full() {
        InsideOutWords x = Check.barred();
        x.set(1, 1);
        x.write(2, 5);
        x.write(3, 4000);
        x.exchange(2, 3);
        x.wear(9, 9, 9);
        x.write(2, 77);
        for (int i = 0; i < 30; i++) {
            x.append(i == 0 ? 'a' : '4');
            x.append(i == 0 ? '=' : ',');
        }
        return x;
    }

    private static void wrongArguments(InsideOutWords x) {
        throwsOf(x, Check.NO_SUCH, () -> x.write(16, 0));
        throwsOf(x, Check.BAD, () -> x.write(2, 4096));
        throwsOf(x, Check.NO_SUCH, () -> x.hammer(-1, 0, 1));
        throwsOf(x, Check.BAD, () -> x.hammer(2, 4096, 1));
        throwsOf(x, Check.BAD, () -> x.hammer(2, 7, 0));
        throwsOf(x, Check.BAD, () -> x.hammer(2, 7, 501));
        throwsOf(x, Check.NO_SUCH, () -> x.exchange(2, 16));
        throwsOf(x, Check.NO_SUCH, () -> x.exchange(16, 2));
        throwsOf(x, Check.NO_SUCH, () -> x.wear(18, 1, 1));
        throwsOf(x, Check.NO_SUCH, () -> x.wear(1, 13, 1));
        throwsOf(x, Check.BAD, () -> x.wear(1, 1, 0));
        throwsOf(x, Check.BAD, () -> x.wear(1, 1, 1000));
        throwsOf(x, Check.NO_SUCH, () -> x.set(2, 5));
        throwsOf(x, Check.BAD, () -> x.set(0, 1000));
        throwsOf(x, Check.BAD, () -> x.set(1, 100));
        throwsOf(x, Check.BAD, () -> x.append(127));
        throwsOf(x, Check.NO_SUCH, () -> x.read(16));
        throwsOf(x, Check.BAD, () -> x.word(2, 5));
        throwsOf(x, Check.BAD, () -> x.slot(2, 6));
        throwsOf(x, Check.NO_SUCH, () -> x.wearOf(2, 13));
        throwsOf(x, Check.BAD, () -> x.count(10));
        throwsOf(x, Check.NO_SUCH, () -> x.setting(2));
        throwsOf(x, Check.BAD, () -> x.cost(2, 4096));
        throwsOf(x, Check.BAD, () -> x.ifWritten(2, 4096));
        throwsOf(x, Check.NO_SUCH, () -> x.costliest(16));
        throwsOf(x, Check.BAD, () -> x.life(2, 4096));
    }

    /** Without a look at the object, so that nothing but the call that throws comes between. */
    private static void throwsOf(InsideOutWords x, Class<? extends RuntimeException> due, Check.Call call) {
        try {
            Check.complain("answered " + call.answer() + ", due is " + due.getSimpleName());
        } catch (RuntimeException e) {
            Check.is(e + " is " + due.getSimpleName(), 1, e.getClass() == due ? 1 : 0);
        }
    }

    /** It takes some 260 calls on each, and leaves nothing saved. */
    private static void sameToTheEnd(String what, InsideOutWords x, InsideOutWords due) {
        Check.alike(what, due, x);
        int saved = due.count(9);
        for (int left = saved - 1; left >= 0; left--) {
            Check.is(what + ": left", left, x.undo());
            due.undo();
            Check.is(what + ": digest with " + left + " left", due.digest(), x.digest());
        }
        Check.is(what + ": the buffer", due.clearBuffer(), x.clearBuffer());
        throwsOf(x, Check.STATE, () -> x.undo());
    }
}
