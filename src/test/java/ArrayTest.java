/** Promises 27 to 33: capacity, gapStart, cell, carried, copied, growths, shrinks. */
final class ArrayTest {
    private static final Due due = new Due();

    public static void main(String[] args) {
        growing();
        shrinking();
        cells();
        due.close();
    }

    private static void growing() {
        int copied = 0;
        int growths = 0;
        for (int length = 1; length <= 256; length++) {
            if (length == 9 || length == 17 || length == 33 || length == 65 || length == 129) {
                copied += length - 1;
                growths++;
            }
            GapBuffer x = typedOn(length);
            due.same("27 capacity at " + length, x.capacity(), 8 << growths);
            due.same("28 gapStart at " + length, x.gapStart(), length);
            due.same("31 copied at " + length, x.copied(), copied);
            due.same("32 growths at " + length, x.growths(), growths);
        }
        due.same("30 carried", typedOn(256).carried(), 0);
        due.same("33 shrinks", typedOn(256).shrinks(), 0);

        GapBuffer y = Due.typed("abc");
        y.moveTo(1);
        y.fill('x', 30);
        due.same("27 grown thrice by one edit", y.capacity(), 64);
        due.same("31 three times three bytes", y.copied(), 9);
        due.same("32 three growths", y.growths(), 3);
        due.same("30 carried before", y.carried(), 2);
        due.same("28 behind the bytes", y.gapStart(), 31);
        GapBuffer z = Due.typed("abc");
        z.fill('x', 5);
        due.same("27 just enough", z.capacity(), 8);
    }

    private static GapBuffer typedOn(int length) {
        GapBuffer x = new GapBuffer();
        for (int i = 0; i < length; i++) {
            x.type('a');
        }
        return x;
    }

    private static void shrinking() {
        GapBuffer x = new GapBuffer();
        x.fill('a', 100);
        int copied = x.copied();
        x.moveTo(90);
        x.backspace(67);
        due.same("27 33 of 128", x.capacity(), 128);
        x.erase(1);
        due.same("27 32 of 128", x.capacity(), 64);
        due.same("31 copied", x.copied() - copied, 32);
        due.same("33 shrinks", x.shrinks(), 1);
        due.same("28 gapStart", x.gapStart(), 23);
        due.same("30 carried", x.carried(), 10);
        x.backspace(21);
        due.same("27 11 of 32", x.capacity(), 32);
        x.erase(5);
        due.same("27 6 of 16", x.capacity(), 16);
        x.erase(2);
        due.same("27 4 of 8", x.capacity(), 8);
        due.same("33 shrinks", x.shrinks(), 4);
        due.same("31 copied", x.copied() - copied, 32 + 11 + 6 + 4);
        due.same("32 growths stay", x.growths(), 4);
        x.erase(2);
        x.backspace(2);
        due.same("27 never less than 8", x.capacity(), 8);
        due.same("33 shrinks", x.shrinks(), 4);
    }

    private static void cells() {
        GapBuffer x = Due.typed("abcde");
        due.same("29 gap at the end", Due.cells(x), "abcde___");
        x.moveTo(2);
        due.same("29 caret moved alone", Due.cells(x), "abcde___");
        x.type('x');
        due.same("29 gap in the middle", Due.cells(x), "abx__cde");
        x.moveTo(0);
        x.setEager(true);
        due.same("29 gap at the beginning", Due.cells(x), "__abxcde");
        due.same("28 gapStart", x.gapStart(), 0);
        due.same("30 carried", x.carried(), 3 + 3);
        x.fill('y', 2);
        due.same("29 no gap", Due.cells(x), "yyabxcde");
        due.same("29 first cell", x.cell(0), 'y');
        due.same("29 last cell", x.cell(7), 'e');
        int[] wrong = {-1, 8, Integer.MIN_VALUE, Integer.MAX_VALUE};
        for (int index : wrong) {
            due.refuses(x, "29 cell " + index, IndexOutOfBoundsException.class,
                () -> x.cell(index));
        }
        x.type('z');
        due.same("29 grown", Due.cells(x), "yyz_______abxcde");
        due.same("29 cell of the gap", x.cell(3), GapBuffer.NONE);
        due.refuses(x, "29 cell 16", IndexOutOfBoundsException.class, () -> x.cell(16));
        x.undo();
        due.same("29 undone", Due.cells(x), "yyabxcde");
        x.backspace(1);
        x.erase(1);
        due.same("29 deleted bytes are gap", Due.cells(x), "y__bxcde");
    }
}
