/** Promises 19 to 26: length, caret, byteAt, lines, lineOf, columnOf, lineStart, lineLength. */
final class TextTest {
    private static final Class<IndexOutOfBoundsException> INDEX = IndexOutOfBoundsException.class;

    private static final Due due = new Due();

    public static void main(String[] args) {
        promises19To21();
        lines();
        noText();
        longText();
        due.close();
    }

    private static void promises19To21() {
        GapBuffer x = Due.typed("a\n~ d");
        due.same("19 length", x.length(), 5);
        due.same("20 caret", x.caret(), 5);
        x.moveTo(2);
        due.same("19 length stays", x.length(), 5);
        due.same("20 caret", x.caret(), 2);
        x.setEager(true);
        int[] codes = {'a', 10, '~', ' ', 'd'};
        for (int i = 0; i < codes.length; i++) {
            due.same("21 byteAt " + i, x.byteAt(i), codes[i]);
        }
        int[] wrong = {-1, 5, 6, 8, Integer.MIN_VALUE, Integer.MAX_VALUE};
        for (int position : wrong) {
            due.refuses(x, "21 byteAt " + position, INDEX, () -> x.byteAt(position));
        }
        x.erase(1);
        due.same("19 length", x.length(), 4);
        due.refuses(x, "21 behind the text", INDEX, () -> x.byteAt(4));
    }

    private static void lines() {
        GapBuffer x = Due.typed("ab\n\ncde\n");
        due.same("22 lines", x.lines(), 4);
        int[] lineOf = {0, 0, 0, 1, 2, 2, 2, 2, 3};
        int[] columnOf = {0, 1, 2, 0, 0, 1, 2, 3, 0};
        for (int position = 0; position <= 8; position++) {
            due.same("23 lineOf " + position, x.lineOf(position), lineOf[position]);
            due.same("24 columnOf " + position, x.columnOf(position), columnOf[position]);
        }
        int[] lineStart = {0, 3, 4, 8};
        int[] lineLength = {2, 0, 3, 0};
        for (int line = 0; line < 4; line++) {
            due.same("25 lineStart " + line, x.lineStart(line), lineStart[line]);
            due.same("26 lineLength " + line, x.lineLength(line), lineLength[line]);
        }
        int[] noPosition = {-1, 9, Integer.MIN_VALUE, Integer.MAX_VALUE};
        for (int position : noPosition) {
            due.refuses(x, "23 lineOf " + position, INDEX, () -> x.lineOf(position));
            due.refuses(x, "24 columnOf " + position, INDEX, () -> x.columnOf(position));
        }
        int[] noLine = {-1, 4, Integer.MIN_VALUE, Integer.MAX_VALUE};
        for (int line : noLine) {
            due.refuses(x, "25 lineStart " + line, INDEX, () -> x.lineStart(line));
            due.refuses(x, "26 lineLength " + line, INDEX, () -> x.lineLength(line));
        }
        x.backspace(1);
        due.same("22 fewer lines", x.lines(), 3);
        due.same("26 the last line", x.lineLength(2), 3);
    }

    private static void noText() {
        GapBuffer x = new GapBuffer();
        due.same("22 one line", x.lines(), 1);
        due.same("23 line 0", x.lineOf(0), 0);
        due.same("24 column 0", x.columnOf(0), 0);
        due.same("25 begins at 0", x.lineStart(0), 0);
        due.same("26 is empty", x.lineLength(0), 0);
        due.refuses(x, "21 no byte", INDEX, () -> x.byteAt(0));
        due.refuses(x, "23 position 1", INDEX, () -> x.lineOf(1));
        due.refuses(x, "25 line 1", INDEX, () -> x.lineStart(1));
    }

    private static void longText() {
        GapBuffer x = new GapBuffer();
        x.fill(10, 100);
        x.fill(10, 100);
        x.fill(10, 56);
        due.same("22 257 lines", x.lines(), 257);
        due.same("23 line 256", x.lineOf(256), 256);
        due.same("25 begins at 256", x.lineStart(256), 256);
        due.same("26 is empty", x.lineLength(256), 0);
        x.undo();
        x.fill('a', 56);
        due.same("24 column 56", x.columnOf(256), 56);
        due.same("26 56 bytes", x.lineLength(200), 56);
        due.refuses(x, "25 line 201", INDEX, () -> x.lineStart(201));
    }
}
