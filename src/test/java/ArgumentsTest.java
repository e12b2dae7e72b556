/**
 * The least and the greatest value of each argument, the ones just outside and the ones far outside, in every mix: where
 * one or more are outside, the exception that is named first for them is thrown and nothing is changed; where none is,
 * the answer is the one of PlainModel. The ranges stand here as the document names them.
 */
public final class ArgumentsTest {
    private interface Ask {
        long of(InsideOutWords x, int[] a);
    }

    private interface AskModel {
        long of(PlainModel x, int[] a);
    }

    /** What an argument may be, and what is thrown otherwise. */
    private record Range(int least, int greatest, Class<? extends RuntimeException> outside) {
        int[] edges() {
            return new int[] {least - 1, least, greatest, greatest + 1, Integer.MIN_VALUE, Integer.MAX_VALUE};
        }

        boolean has(int value) {
            return value >= least && value <= greatest;
        }
    }

    private static final Range WORD = new Range(0, 15, Check.NO_SUCH);
    private static final Range SLOT = new Range(0, 17, Check.NO_SUCH);
    private static final Range CELL = new Range(0, 12, Check.NO_SUCH);
    private static final Range SETTING = new Range(0, 1, Check.NO_SUCH);
    private static final Range NUMBER = new Range(0, 4095, Check.BAD);

    public static void main(String[] args) {
        mixes("write", (x, a) -> x.write(a[0], a[1]), (x, a) -> x.write(a[0], a[1]), WORD, NUMBER);
        mixes("hammer", (x, a) -> x.hammer(a[0], a[1], a[2]), (x, a) -> x.hammer(a[0], a[1], a[2]),
                WORD, NUMBER, new Range(1, 500, Check.BAD));
        mixes("exchange", (x, a) -> x.exchange(a[0], a[1]), (x, a) -> x.exchange(a[0], a[1]), WORD, WORD);
        mixes("wear", (x, a) -> x.wear(a[0], a[1], a[2]), (x, a) -> x.wear(a[0], a[1], a[2]),
                SLOT, CELL, new Range(1, 999, Check.BAD));
        mixes("set 0", (x, a) -> x.set(0, a[0]), (x, a) -> x.set(0, a[0]), new Range(1, 999, Check.BAD));
        mixes("set 1", (x, a) -> x.set(1, a[0]), (x, a) -> x.set(1, a[0]), new Range(0, 99, Check.BAD));
        mixes("append", (x, a) -> x.append(a[0]), (x, a) -> x.append(a[0]), new Range(33, 126, Check.BAD));
        mixes("read", (x, a) -> x.read(a[0]), (x, a) -> x.read(a[0]), WORD);
        mixes("word", (x, a) -> x.word(a[0], a[1]), (x, a) -> x.word(a[0], a[1]), WORD, new Range(0, 4, Check.BAD));
        mixes("slot", (x, a) -> x.slot(a[0], a[1]), (x, a) -> x.slot(a[0], a[1]), SLOT, new Range(0, 5, Check.BAD));
        mixes("wearOf", (x, a) -> x.wearOf(a[0], a[1]), (x, a) -> x.wearOf(a[0], a[1]), SLOT, CELL);
        mixes("count", (x, a) -> x.count(a[0]), (x, a) -> x.count(a[0]), new Range(0, 9, Check.BAD));
        mixes("setting", (x, a) -> x.setting(a[0]), (x, a) -> x.setting(a[0]), SETTING);
        mixes("cost", (x, a) -> x.cost(a[0], a[1]), (x, a) -> x.cost(a[0], a[1]), SLOT, NUMBER);
        mixes("ifWritten", (x, a) -> x.ifWritten(a[0], a[1]), (x, a) -> x.ifWritten(a[0], a[1]), WORD, NUMBER);
        mixes("costliest", (x, a) -> x.costliest(a[0]), (x, a) -> x.costliest(a[0]), WORD);
        mixes("life", (x, a) -> x.life(a[0], a[1]), (x, a) -> x.life(a[0], a[1]), WORD, NUMBER);
        noSuchSetting();
        settingsHaveRangesOfTheirOwn();
        Check.end();
    }

    private static void mixes(String name, Ask ask, AskModel model, Range... ranges) {
        int mixes = 1;
        for (Range range : ranges) {
            mixes *= range.edges().length;
        }
        for (int mix = 0; mix < mixes; mix++) {
            int[] a = new int[ranges.length];
            int rest = mix;
            StringBuilder text = new StringBuilder(name).append(" of");
            for (int i = 0; i < a.length; i++) {
                int[] edges = ranges[i].edges();
                a[i] = edges[rest % edges.length];
                rest /= edges.length;
                text.append(' ').append(a[i]);
            }
            one(text.toString(), ask, model, ranges, a);
        }
    }

    private static void one(String text, Ask ask, AskModel model, Range[] ranges, int[] a) {
        InsideOutWords x = worn();
        Class<? extends RuntimeException> due = null;
        for (int i = 0; i < a.length; i++) {
            boolean first = due != Check.NO_SUCH;
            due = first && !ranges[i].has(a[i]) ? ranges[i].outside() : due;
        }
        if (due != null) {
            Check.refuses(text, x, due, () -> ask.of(x, a));
            return;
        }
        PlainModel plain = wornModel();
        Check.is(text, model.of(plain, a), ask.of(x, a));
        Check.is(text + ", and then digest", plain.digest(), x.digest());
    }

    /** Words, free slots and cells that differ from a new object's, so that edges are not told apart by luck. */
    private static InsideOutWords worn() {
        InsideOutWords x = new InsideOutWords();
        x.set(0, 30);
        x.set(1, 40);
        x.write(0, 1234);
        x.write(15, 3210);
        x.wear(0, 0, 3);
        x.wear(17, 12, 5);
        x.append('z');
        return x;
    }

    private static PlainModel wornModel() {
        PlainModel x = new PlainModel();
        x.set(0, 30);
        x.set(1, 40);
        x.write(0, 1234);
        x.write(15, 3210);
        x.wear(0, 0, 3);
        x.wear(17, 12, 5);
        x.append('z');
        return x;
    }

    /** No such setting is named first, whatever the value is. */
    private static void noSuchSetting() {
        int[] settings = {-1, 2, Integer.MIN_VALUE, Integer.MAX_VALUE};
        int[] values = {Integer.MIN_VALUE, -1, 0, 1, 99, 100, 999, 1000, Integer.MAX_VALUE};
        for (int setting : settings) {
            for (int value : values) {
                InsideOutWords x = worn();
                Check.refuses("set(" + setting + ", " + value + ")", x, Check.NO_SUCH, () -> x.set(setting, value));
            }
        }
    }

    /** What is out of range for one setting may be in range for the other one. */
    private static void settingsHaveRangesOfTheirOwn() {
        InsideOutWords x = new InsideOutWords();
        Check.is("setting 0 takes 100", 20, x.set(0, 100));
        Check.is("setting 0 has it", 100, x.setting(0));
        Check.refuses("setting 1 does not take 100", x, Check.BAD, () -> x.set(1, 100));
        Check.is("setting 1 takes 0", 0, x.set(1, 0));
        Check.refuses("setting 0 does not take 0", x, Check.BAD, () -> x.set(0, 0));
    }
}
