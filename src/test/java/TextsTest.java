/** Promises 7 to 11: append, clearBuffer, firstError, writeAll, undo. */
public final class TextsTest {
    public static void main(String[] args) {
        append();
        clearBuffer();
        firstError();
        firstErrorOfEachCode();
        firstErrorOfEachNumber();
        firstErrorWhereATextIsTooLong();
        asManyPartsAsThereIsRoomFor();
        writeAll();
        writeAllIncomplete();
        writeAllRefused();
        writeAllWithAFullBuffer();
        undo();
        undoDropsTheOldest();
        undoLeavesTheBuffer();
        Check.end();
    }

    private static void append() {
        InsideOutWords x = new InsideOutWords();
        Check.is("the least code", 1, x.append(33));
        Check.is("the greatest code", 2, x.append(126));
        Check.refuses("append(32)", x, Check.BAD, () -> x.append(32));
        Check.refuses("append(127)", x, Check.BAD, () -> x.append(127));
        Check.refuses("append(0)", x, Check.BAD, () -> x.append(0));
        for (int far : Check.FAR) {
            Check.refuses("append far code", x, Check.BAD, () -> x.append(far));
        }
        for (int length = 3; length <= 60; length++) {
            Check.is("the length", length, x.append('a'));
        }
        Check.refuses("append to a full buffer", x, Check.STATE, () -> x.append('a'));
        Check.refuses("bad code ahead of a full buffer", x, Check.BAD, () -> x.append(32));
        Check.is("nothing is saved", 0, x.count(9));
    }

    private static void clearBuffer() {
        InsideOutWords x = new InsideOutWords();
        Check.is("empty", 0, x.clearBuffer());
        Check.type(x, "a=1");
        Check.is("three", 3, x.clearBuffer());
        Check.is("then empty", 0, x.clearBuffer());
        Check.type(x, "b");
        Check.is("one", 1, x.clearBuffer());
        Check.is("nothing is saved", 0, x.count(9));
        for (int i = 0; i < 60; i++) {
            x.append('z');
        }
        Check.is("full", 60, x.clearBuffer());
        Check.is("it takes again", 1, x.append('a'));
    }

    /** The sign ^ stands ahead of the first error; it is taken away. */
    private static void firstError() {
        String[] texts = {
            "", "a", "p", "^q", "^A", "^`", "^=", "^0", "^;", "^,", "a=", "a^a", "a^:", "a^0", "a^;",
            "a=0", "a=9", "a=^a", "a=^,", "a=^;", "a=^-1", "a=^=", "a=^/", "a=^:", "a=0^0", "a=0^1", "a=0^9",
            "a=1", "a=10", "a=100", "a=1000", "a=4000", "a=4089", "a=4090", "a=4095", "a=409^6", "a=409^9", "a=41",
            "a=410", "a=410^0", "a=409", "a=999", "a=999^9", "a=500^0", "a=4095^0", "a=1000^0", "a=1000^000", "a=100,^x", "a=1^a",
            "a=1^=", "a=1,", "a=1,2", "a=1,^,", "a=1,^;", "a=1,^a", "a=1,0^0", "a=1,4095", "a=1,409^6", "a=1,2,3,4",
            "a=1;", "a=1;^;", "a=1;^,", "a=1;^1", "a=1;^q", "a=1;b", "a=1;b=", "a=1;b^b", "a=1;b=2", "a=0,0;p=0,0",
            "a=1;a=1", "a=1,2;b=3,4;c=5", "a=1;b=2;", "a=1;b=2;^=", "a=^qqq", "^~a=1", "^!", "a=1^!", "a=1^~",
        };
        for (String marked : texts) {
            int mark = marked.indexOf('^');
            String text = mark < 0 ? marked : marked.substring(0, mark) + marked.substring(mark + 1);
            InsideOutWords x = new InsideOutWords();
            Check.type(x, text);
            long before = x.digest();
            Check.is("firstError of " + text, mark < 0 ? text.length() : mark, x.firstError());
            Check.is("firstError changes nothing", before, x.digest());
        }
        InsideOutWords full = new InsideOutWords();
        Check.type(full, "a=1;b=22;c=333;d=4000;e=0;f=5,6,7,8,9,10,11,12,13,14,15,16,1");
        Check.is("no error in a full buffer", 60, full.firstError());
        full.clearBuffer();
        Check.type(full, "a=1;b=22;c=333;d=4000;e=0;f=5,6,7,8,9,10,11,12,13,14,15,16,;");
        Check.is("an error at the end of a full buffer", 59, full.firstError());
    }

    private static void firstErrorOfEachCode() {
        String[] starts = {"", "a", "a=", "a=1", "a=0", "a=4095", "a=1,", "a=1;"};
        String[] next = {"abcdefghijklmnop", "=", "0123456789", "0123456789,;", ",;", ",;", "0123456789",
            "abcdefghijklmnop"};
        for (int i = 0; i < starts.length; i++) {
            for (int code = 33; code <= 126; code++) {
                InsideOutWords x = new InsideOutWords();
                Check.type(x, starts[i]);
                x.append(code);
                int length = starts[i].length();
                int due = next[i].indexOf(code) < 0 ? length : length + 1;
                Check.is("firstError of " + starts[i] + (char) code, due, x.firstError());
            }
        }
    }

    /** "A number, 0 to 4095, without leading zeros": each text of one to five digits, ahead of a "," or at the end. */
    private static void firstErrorOfEachNumber() {
        for (int digits = 1; digits <= 5; digits++) {
            int bound = (int) Math.pow(10, digits);
            for (int value = 0; value < Math.min(bound, 41000); value++) {
                String text = Integer.toString(bound + value).substring(1);
                int wrong = firstWrongDigit(text);
                InsideOutWords x = new InsideOutWords();
                Check.type(x, "p=" + text + ",");
                int due = wrong < digits ? 2 + wrong : 2 + digits + 1;
                Check.is("firstError of p=" + text + ",", due, x.firstError());
            }
        }
    }

    /** The digits, as many as can begin a number: it is 4095 at most, and after a leading zero there is no other digit. */
    private static int firstWrongDigit(String digits) {
        for (int i = 1; i < digits.length(); i++) {
            if (digits.charAt(0) == '0' || Integer.parseInt(digits.substring(0, i + 1)) > 4095) {
                return i;
            }
        }
        return digits.length();
    }

    /** "If no writes as a text, of any length, begin with the characters": also of a length that the buffer can't have. */
    private static void firstErrorWhereATextIsTooLong() {
        String[] ends = {",", ";", ";p", ";p="};
        for (String end : ends) {
            InsideOutWords x = new InsideOutWords();
            Check.type(x, completeText(60 - end.length()) + end);
            Check.is("firstError of a full buffer that ends with " + end, 60, x.firstError());
            Check.refuses("writeAll of it", x, Check.BAD, () -> x.writeAll());
            Check.is("the buffer is kept", 60, x.clearBuffer());
        }
        InsideOutWords x = new InsideOutWords();
        Check.type(x, completeText(60));
        Check.is("firstError of a full buffer that is complete", 60, x.firstError());
        Check.is("writeAll of it", 29, x.writeAll());
    }

    private static String completeText(int length) {
        StringBuilder text = new StringBuilder(length % 2 == 0 ? "a=77" : "a=7");
        while (text.length() < length) {
            text.append(",7");
        }
        return text.toString();
    }

    /** "One or more parts with ";" between them", "perhaps with "," and another number, and so on". */
    private static void asManyPartsAsThereIsRoomFor() {
        InsideOutWords x = new InsideOutWords();
        for (int part = 0; part < 15; part++) {
            Check.type(x, part == 0 ? "" : ";");
            Check.type(x, (char) ('a' + part) + "=" + part % 10);
        }
        Check.is("no error in 15 parts", 59, x.firstError());
        Check.is("15 parts", 15, x.writeAll());
        Check.is("the first", 0, x.read(0));
        Check.is("the last", 4, x.read(14));
        Check.type(x, "p=0");
        Check.is("one part", 1, x.writeAll());
        for (int number = 0; number < 29; number++) {
            Check.type(x, number == 0 ? "p=9" : ",8");
        }
        Check.is("no error in 29 numbers", 59, x.firstError());
        Check.is("29 numbers", 29, x.writeAll());
        Check.is("the last number", 8, x.read(15));
        Check.is("writes of the word", 30, x.word(15, 2));
    }

    private static void writeAll() {
        InsideOutWords x = new InsideOutWords();
        Check.type(x, "a=1,4095;p=10,7;a=5");
        Check.is("all", 5, x.writeAll());
        Check.is("the last of a", 5, x.read(0));
        Check.is("the last of p", 7, x.read(15));
        Check.is("writes", 5, x.count(0));
        Check.is("writes of a", 3, x.word(0, 2));
        Check.is("changes in their order", 1 + 2 + 2 + 3 + 3, x.count(1));
        Check.is("plain changes in their order", 1 + 11 + 10 + 2 + 3, x.count(2));
        Check.is("the buffer is cleared", 0, x.clearBuffer());
        Check.is("saved as one", 1, x.count(9));
        Check.is("undone as one", 0, x.undo());
        Check.is("undone", 0, x.count(0));
        Check.is("undone word", 0, x.read(15));
        Check.is("the buffer stays cleared", 0, x.clearBuffer());
        Check.type(x, "i=0");
        Check.is("a number 0", 1, x.writeAll());
        Check.is("it counts", 1, x.word(8, 2));
    }

    private static void writeAllIncomplete() {
        String[] texts = {"", "a", "a=", "a=1,", "a=1;", "a=1;b", "a=1;b=", "a=01", "a=4096", "q=1", "a=1,,", "A=1",
            "a=1x", "a=1;b=2;c=3;d=4096"};
        for (String text : texts) {
            InsideOutWords x = new InsideOutWords();
            Check.type(x, text);
            Check.refuses("writeAll of " + text, x, Check.BAD, () -> x.writeAll());
            Check.is("the buffer is kept", text.length(), x.clearBuffer());
            Check.is("nothing is written", 0, x.count(0));
        }
    }

    private static void writeAllRefused() {
        InsideOutWords x = new InsideOutWords();
        x.set(0, 1);
        Check.wearMask(x, 1, 1 | 4096);
        Check.wearMask(x, 16, 1 | 4096);
        Check.wearMask(x, 17, 1 | 4096);
        Check.type(x, "a=2,6;b=2,1,4;c=1");
        Check.is("up to the refused one", 3, x.writeAll());
        Check.is("the word ahead of it", 2, x.read(1));
        Check.is("none behind it", 0, x.read(2));
        Check.is("writes", 3, x.count(0));
        Check.is("the buffer is cleared all the same", 0, x.clearBuffer());
        Check.is("saved", 6, x.count(9));
        x.undo();
        Check.is("undone", 0, x.read(0));
        Check.type(x, "b=1;a=1");
        Check.is("none", 0, x.writeAll());
        Check.is("saved all the same", 6, x.count(9));
        Check.is("cleared all the same", 0, x.clearBuffer());
        Check.is("none is made", 0, x.count(0));
    }

    private static void writeAllWithAFullBuffer() {
        InsideOutWords x = new InsideOutWords();
        StringBuilder text = new StringBuilder("b=10");
        for (int i = 0; i < 28; i++) {
            text.append(',').append(i % 10);
        }
        Check.type(x, text.toString());
        Check.is("a full buffer", 29, x.writeAll());
        Check.is("the last", 7, x.read(1));
        Check.type(x, "a=4095");
        Check.is("the former text is gone", 1, x.writeAll());
        Check.is("writes", 30, x.count(0));
    }

    private static void undo() {
        InsideOutWords x = new InsideOutWords();
        Check.refuses("nothing to undo", x, Check.STATE, () -> x.undo());
        long fresh = x.digest();
        x.write(0, 4095);
        Check.is("one", 1, x.count(9));
        Check.is("none left", 0, x.undo());
        Check.is("all is as it was", fresh, x.digest());
        Check.refuses("nothing to undo then", x, Check.STATE, () -> x.undo());
        x.set(1, 1);
        x.write(0, 9);
        long before = x.digest();
        x.write(0, 7);
        Check.is("it moved", 16, x.word(0, 0));
        Check.is("two left", 2, x.undo());
        Check.is("the move is undone", before, x.digest());
        Check.is("its slot", 0, x.word(0, 0));
        Check.is("the free slot", InsideOutWords.NONE, x.slot(16, 0));
        Check.is("the free slot's cells", 0, x.slot(16, 1));
        Check.is("the moves", 0, x.count(3));
        x.exchange(0, 1);
        x.wear(5, 5, 5);
        x.undo();
        x.undo();
        Check.is("all are undone", before, x.digest());
    }

    private static void undoDropsTheOldest() {
        InsideOutWords x = new InsideOutWords();
        for (int value = 1; value <= 9; value++) {
            x.set(0, value);
            Check.is("saved states", Math.min(value, 6), x.count(9));
        }
        for (int left = 5; left >= 0; left--) {
            Check.is("left", left, x.undo());
            Check.is("the value", left + 3, x.setting(0));
        }
        Check.refuses("the oldest are dropped", x, Check.STATE, () -> x.undo());
        for (int value = 11; value <= 14; value++) {
            x.set(0, value);
        }
        Check.is("it is used again", 3, x.undo());
        Check.is("the value again", 13, x.setting(0));
    }

    private static void undoLeavesTheBuffer() {
        InsideOutWords x = new InsideOutWords();
        Check.type(x, "a");
        x.write(0, 1);
        Check.type(x, "=2");
        x.undo();
        Check.is("the text is whole", 1, x.writeAll());
        Check.is("the text is written", 2, x.read(0));
    }
}
