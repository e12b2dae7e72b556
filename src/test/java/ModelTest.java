/**
 * All promises: long runs of calls, the same on the class and on PlainModel; each answer, each exception and, from time
 * to time, all that can be looked at is compared. No run has more than 512 calls, and each run is always the same.
 * The number of runs may be given, to search longer by hand.
 */
public final class ModelTest {
    private static final int RUNS = 60;
    private static final int CALLS = 512;

    private interface Face {
        long ask(int method, int[] a);
    }

    private long seed;
    private int bears;

    private ModelTest(long seed) {
        this.seed = seed * 7919 + 17;
    }

    public static void main(String[] args) {
        int runs = args.length == 0 ? RUNS : Integer.parseInt(args[0]);
        for (int run = 0; run < runs; run++) {
            new ModelTest(run).run(run);
        }
        Check.end();
    }

    private int random(int bound) {
        seed = seed * 6364136223846793005L + 1442695040888963407L;
        return (int) ((seed >>> 33) % bound);
    }

    private void run(int run) {
        InsideOutWords x = new InsideOutWords();
        PlainModel model = new PlainModel();
        Face real = (method, a) -> askClass(x, method, a);
        Face plain = (method, a) -> askModel(model, method, a);
        StringBuilder story = new StringBuilder("run " + run + ":");
        bears = 1 + random(run % 3 == 0 ? 3 : 30);
        ask(story, real, plain, 4, new int[] {0, bears, 0});
        if (run % 2 == 0) {
            ask(story, real, plain, 4, new int[] {1, 1 + random(4), 0});
        }
        int calls = 2;
        while (calls < CALLS - 60) {
            calls += step(story, real, plain);
        }
        for (int i = 0; i < 58; i++) {
            ask(story, real, plain, 13, new int[] {random(18), random(13), 0});
        }
        ask(story, real, plain, 21, new int[3]);
    }

    /** Returns how many calls it made. */
    private int step(StringBuilder story, Face real, Face plain) {
        int kind = random(100);
        if (kind < 8) {
            return typeText(story, real, plain);
        }
        if (kind < 16) {
            ask(story, real, plain, 21, new int[3]);
            return 1;
        }
        int method = kind < 45 ? 0 : kind < 60 ? 3 : random(22);
        int[] a = argumentsOf(method);
        if (random(12) == 0) {
            int[] wrong = {-1, 10, 16, 18, 13, 4096, 1000, 501, Integer.MIN_VALUE, Integer.MAX_VALUE};
            a[random(3)] = wrong[random(wrong.length)];
        }
        ask(story, real, plain, method, a);
        return 1;
    }

    private int number() {
        int[] some = {0, 4095, 1, 2, 4094, 63, 127, 1365, 2730, 2048};
        return random(2) == 0 ? some[random(some.length)] : random(4096);
    }

    private int[] argumentsOf(int method) {
        int word = random(3) == 0 ? random(16) : random(3);
        int slot = random(2) == 0 ? random(18) : 16 * random(2) + random(2);
        switch (method) {
            case 0: case 17: case 19:
                return new int[] {word, number(), 0};
            case 1:
                return new int[] {word, number(), random(4) == 0 ? 1 + random(500) : 1 + random(9), 0};
            case 2:
                return new int[] {word, random(16), 0};
            case 3:
                return new int[] {slot, random(13), random(4) == 0 ? 1 + random(999) : bears};
            case 4:
                return random(2) == 0 ? new int[] {0, 1 + random(40), 0} : new int[] {1, random(5), 0};
            case 5:
                return new int[] {33 + random(94), 0, 0};
            case 11:
                return new int[] {word, random(5), 0};
            case 12:
                return new int[] {slot, random(6), 0};
            case 13:
                return new int[] {slot, random(13), 0};
            case 14:
                return new int[] {random(10), 0, 0};
            case 15:
                return new int[] {random(2), 0, 0};
            case 16:
                return new int[] {slot, number(), 0};
            default:
                return new int[] {word, 0, 0};
        }
    }

    private int typeText(StringBuilder story, Face real, Face plain) {
        StringBuilder text = new StringBuilder();
        int parts = 1 + random(3);
        for (int part = 0; part < parts; part++) {
            text.append(part == 0 ? "" : ";").append((char) ('a' + random(16))).append('=').append(number());
            for (int more = random(3); more > 0; more--) {
                text.append(',').append(number());
            }
        }
        if (random(3) == 0) {
            String signs = "0123456789,;=apq`~!";
            text.setCharAt(random(text.length()), signs.charAt(random(signs.length())));
        }
        if (random(6) == 0) {
            text.setLength(random(text.length() + 1));
        }
        for (int i = 0; i < text.length(); i++) {
            ask(story, real, plain, 5, new int[] {text.charAt(i), 0, 0});
        }
        ask(story, real, plain, 7, new int[3]);
        ask(story, real, plain, 8, new int[3]);
        ask(story, real, plain, 6, new int[3]);
        return text.length() + 3;
    }

    private static void ask(StringBuilder story, Face real, Face plain, int method, int[] a) {
        story.append(' ').append(method).append('(').append(a[0]).append(',').append(a[1]).append(',')
                .append(a[2]).append(')');
        String due = answer(plain, method, a);
        String got = answer(real, method, a);
        Check.is("the same answer", 0, 0);
        if (!due.equals(got)) {
            Check.complain(story + " answered " + got + ", due is " + due);
        }
    }

    private static String answer(Face face, int method, int[] a) {
        try {
            return String.valueOf(face.ask(method, a));
        } catch (RuntimeException e) {
            return e.getClass().getName();
        }
    }

    private static long askClass(InsideOutWords x, int method, int[] a) {
        switch (method) {
            case 0: return x.write(a[0], a[1]);
            case 1: return x.hammer(a[0], a[1], a[2]);
            case 2: return x.exchange(a[0], a[1]);
            case 3: return x.wear(a[0], a[1], a[2]);
            case 4: return x.set(a[0], a[1]);
            case 5: return x.append(a[0]);
            case 6: return x.clearBuffer();
            case 7: return x.firstError();
            case 8: return x.writeAll();
            case 9: return x.undo();
            case 10: return x.read(a[0]);
            case 11: return x.word(a[0], a[1]);
            case 12: return x.slot(a[0], a[1]);
            case 13: return x.wearOf(a[0], a[1]);
            case 14: return x.count(a[0]);
            case 15: return x.setting(a[0]);
            case 16: return x.cost(a[0], a[1]);
            case 17: return x.ifWritten(a[0], a[1]);
            case 18: return x.costliest(a[0]);
            case 19: return x.life(a[0], a[1]);
            case 20: return Double.doubleToLongBits(x.share());
            default: return x.digest();
        }
    }

    private static long askModel(PlainModel x, int method, int[] a) {
        switch (method) {
            case 0: return x.write(a[0], a[1]);
            case 1: return x.hammer(a[0], a[1], a[2]);
            case 2: return x.exchange(a[0], a[1]);
            case 3: return x.wear(a[0], a[1], a[2]);
            case 4: return x.set(a[0], a[1]);
            case 5: return x.append(a[0]);
            case 6: return x.clearBuffer();
            case 7: return x.firstError();
            case 8: return x.writeAll();
            case 9: return x.undo();
            case 10: return x.read(a[0]);
            case 11: return x.word(a[0], a[1]);
            case 12: return x.slot(a[0], a[1]);
            case 13: return x.wearOf(a[0], a[1]);
            case 14: return x.count(a[0]);
            case 15: return x.setting(a[0]);
            case 16: return x.cost(a[0], a[1]);
            case 17: return x.ifWritten(a[0], a[1]);
            case 18: return x.costliest(a[0]);
            case 19: return x.life(a[0], a[1]);
            case 20: return Double.doubleToLongBits(x.share());
            default: return x.digest();
        }
    }
}
