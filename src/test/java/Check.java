/** What the tests share: answers that are due, refusals that are due, and the exit code. */
final class Check {
    interface Call {
        long answer();
    }

    interface Told {
        String answer();
    }

    static final Class<IndexOutOfBoundsException> NO_SUCH = IndexOutOfBoundsException.class;
    static final Class<IllegalArgumentException> BAD = IllegalArgumentException.class;
    static final Class<IllegalStateException> STATE = IllegalStateException.class;

    /** Numbers that are out of every range, beside those next to the edges. */
    static final int[] FAR = {Integer.MIN_VALUE, -4096, 100000, Integer.MAX_VALUE};

    private static int wrong = 0;
    private static int checked = 0;

    private Check() {
    }

    static void is(String what, long due, long got) {
        checked++;
        if (due != got) {
            complain(what + " answered " + got + ", due is " + due);
        }
    }

    static void isDouble(String what, double due, double got) {
        checked++;
        if (Double.doubleToLongBits(due) != Double.doubleToLongBits(got)) {
            complain(what + " answered " + got + ", due is " + due);
        }
    }

    /** The call throws just that class, not one below it, and changes nothing that the digest sees. */
    static void refuses(String what, InsideOutWords x, Class<? extends RuntimeException> due, Call call) {
        checked++;
        long before = x.digest();
        try {
            complain(what + " answered " + call.answer() + ", due is " + due.getSimpleName());
        } catch (RuntimeException e) {
            if (e.getClass() != due) {
                complain(what + " threw " + e + ", due is " + due.getSimpleName());
            }
        }
        if (x.digest() != before) {
            complain(what + " threw, but changed something");
        }
    }

    /** The answer as a text; of a call that throws "throws " and the name of the exception. */
    static void same(String what, String due, Told call) {
        checked++;
        String got;
        try {
            got = call.answer();
        } catch (RuntimeException e) {
            got = "throws " + e.getClass().getSimpleName();
        }
        if (!due.equals(got)) {
            complain(what + " answered " + got + ", due is " + due);
        }
    }

    static void complain(String what) {
        wrong++;
        System.out.println(what);
    }

    static void type(InsideOutWords x, String text) {
        for (int i = 0; i < text.length(); i++) {
            x.append(text.charAt(i));
        }
    }

    /** Wears the cells of the mask by one each. */
    static void wearMask(InsideOutWords x, int slot, int mask) {
        for (int cell = 0; cell < 13; cell++) {
            if ((mask >> cell & 1) != 0) {
                x.wear(slot, cell, 1);
            }
        }
    }

    /**
     * With setting 0 at 1: the slot of the word 0 and both free slots hold 0 and have the cells 0, 1 and 12 stuck, so
     * that the word 0 can't be given a number with the bit 0 or 1, nor one that would turn a slot. Six states are saved.
     */
    static InsideOutWords barred() {
        InsideOutWords x = new InsideOutWords();
        x.set(0, 1);
        wearMask(x, 0, 1 | 2 | 4096);
        wearMask(x, 16, 1 | 2 | 4096);
        wearMask(x, 17, 1 | 2 | 4096);
        return x;
    }

    /** Two objects look alike; it takes 236 calls on each. */
    static void alike(String what, InsideOutWords due, InsideOutWords got) {
        is(what + ": digest", due.digest(), got.digest());
        is(what + ": firstError", due.firstError(), got.firstError());
        for (int slot = 0; slot < 18; slot++) {
            for (int cell = 0; cell < 13; cell++) {
                is(what + ": wear of " + slot + ", " + cell, due.wearOf(slot, cell), got.wearOf(slot, cell));
            }
        }
    }

    static void end() {
        System.out.println(checked + " checks, " + wrong + " wrong");
        if (wrong != 0) {
            System.exit(1);
        }
    }
}
