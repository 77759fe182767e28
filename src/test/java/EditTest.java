/** Promises 1 to 5: a new object, type, fill, erase, backspace. */
final class EditTest {
    private static final Class<IllegalArgumentException> ARGUMENT = IllegalArgumentException.class;
    private static final Class<IllegalStateException> STATE = IllegalStateException.class;

    private static final Due due = new Due();

    public static void main(String[] args) {
        promise1();
        promise2();
        promise3();
        promise4();
        promise5();
        shrinking();
        due.close();
    }

    private static void promise1() {
        GapBuffer x = new GapBuffer();
        due.same("1 length", x.length(), 0);
        due.same("1 caret", x.caret(), 0);
        due.same("1 lines", x.lines(), 1);
        due.same("1 capacity", x.capacity(), 8);
        due.same("1 gapStart", x.gapStart(), 0);
        due.same("1 room", x.room(), 8);
        due.same("1 cells", Due.cells(x), "________");
        due.same("1 clipboard", x.clip(0), GapBuffer.NONE);
        due.same("1 savedStates", x.savedStates(), 0);
        due.same("1 firstError", x.firstError(), 0);
        for (int mark = 0; mark < 4; mark++) {
            due.same("1 mark", x.mark(mark), GapBuffer.NONE);
        }
        due.same("1 costs", x.carried() + x.copied() + x.growths() + x.shrinks(), 0);
        x.type('a');
        x.moveTo(0);
        due.same("1 not eager", x.gapStart(), 1);
    }

    private static void promise2() {
        GapBuffer x = new GapBuffer();
        due.same("2 type", x.type('b'), 1);
        x.moveTo(0);
        due.same("2 type before", x.type('a'), 2);
        due.same("2 caret", x.caret(), 1);
        due.same("2 text", Due.text(x), "ab");
        due.same("2 line break", x.type(10), 3);
        due.same("2 least", x.type(32), 4);
        due.same("2 greatest", x.type(126), 5);
        due.same("2 text", Due.text(x), "a\n ~b");
        due.same("2 undoable", x.savedStates(), 6);
        int[] wrong = {9, 11, 31, 127, 0, -1, 10 + 256, Integer.MIN_VALUE, Integer.MAX_VALUE};
        for (int code : wrong) {
            due.refuses(x, "2 type " + code, ARGUMENT, () -> x.type(code));
        }

        GapBuffer full = full();
        due.refuses(full, "2 full", STATE, () -> full.type('a'));
        due.refuses(full, "2 full and wrong", ARGUMENT, () -> full.type(0));
        full.backspace(1);
        due.same("2 last one", full.type('z'), 256);
    }

    private static void promise3() {
        GapBuffer x = Due.typed("ab");
        x.moveTo(1);
        due.same("3 fill", x.fill('x', 3), 5);
        due.same("3 text", Due.text(x), "axxxb");
        due.same("3 caret", x.caret(), 4);
        due.same("3 gap", x.gapStart(), 4);
        due.same("3 least", x.fill(10, 1), 6);
        due.same("3 greatest", x.fill('y', 100), 106);
        due.same("3 growths", x.growths(), 4);
        due.same("3 copied as one edit", x.copied(), 4 * 6);
        x.undo();
        due.same("3 one undo", Due.text(x), "axxx\nb");
        int[] counts = {0, -1, 101, Integer.MIN_VALUE, Integer.MAX_VALUE};
        for (int count : counts) {
            due.refuses(x, "3 count " + count, ARGUMENT, () -> x.fill('a', count));
        }
        int[] codes = {9, 11, 31, 127, -1, Integer.MAX_VALUE};
        for (int code : codes) {
            due.refuses(x, "3 code " + code, ARGUMENT, () -> x.fill(code, 2));
        }

        GapBuffer y = new GapBuffer();
        y.fill('a', 100);
        y.fill('b', 100);
        due.refuses(y, "3 one too many", STATE, () -> y.fill('c', 57));
        due.refuses(y, "3 too many and wrong", ARGUMENT, () -> y.fill(11, 57));
        due.same("3 just full", y.fill('c', 56), 256);
        due.refuses(y, "3 full", STATE, () -> y.fill('d', 1));
    }

    private static void promise4() {
        GapBuffer x = Due.typed("abcdef");
        x.moveTo(1);
        due.same("4 erase", x.erase(2), 2);
        due.same("4 text", Due.text(x), "adef");
        due.same("4 caret", x.caret(), 1);
        due.same("4 gap", x.gapStart(), 1);
        due.same("4 carried", x.carried(), 5);
        due.same("4 fewer", x.erase(100), 3);
        due.same("4 text", Due.text(x), "a");
        int saved = x.savedStates();
        x.undo();
        due.same("4 undo", Due.text(x), "adef");
        due.same("4 saved", x.savedStates(), saved - 1);

        GapBuffer y = Due.typed("abc");
        y.moveTo(0);
        y.backspace(1);
        due.same("4 gap not moved if none is deleted", y.gapStart(), 3);
        due.same("4 nothing carried", y.carried(), 0);
        y.moveTo(3);
        due.same("4 at the end", y.erase(1), 0);
        due.same("4 saved though none is deleted", y.savedStates(), 6);
        int[] counts = {0, -1, 101, Integer.MIN_VALUE, Integer.MAX_VALUE};
        for (int count : counts) {
            due.refuses(y, "4 count " + count, ARGUMENT, () -> y.erase(count));
        }

        GapBuffer z = full();
        z.moveTo(0);
        due.same("4 greatest count", z.erase(100), 100);
        due.same("4 length", z.length(), 156);
    }

    private static void promise5() {
        GapBuffer x = Due.typed("abcdef");
        x.moveTo(4);
        due.same("5 backspace", x.backspace(2), 2);
        due.same("5 text", Due.text(x), "abef");
        due.same("5 caret", x.caret(), 2);
        due.same("5 gap", x.gapStart(), 2);
        due.same("5 carried only to the caret", x.carried(), 2);
        due.same("5 fewer", x.backspace(3), 2);
        due.same("5 text", Due.text(x), "ef");
        due.same("5 none", x.backspace(1), 0);
        x.moveTo(2);
        x.moveTo(0);
        due.same("5 none", x.backspace(1), 0);
        due.same("5 saved though none is deleted", x.savedStates(), 6);
        int[] counts = {0, -1, 101, Integer.MIN_VALUE, Integer.MAX_VALUE};
        for (int count : counts) {
            due.refuses(x, "5 count " + count, ARGUMENT, () -> x.backspace(count));
        }

        GapBuffer y = Due.typed("abc");
        y.moveTo(1);
        y.moveTo(3);
        y.erase(1);
        due.same("5 gap not moved", y.gapStart(), 3);
        GapBuffer z = full();
        due.same("5 greatest count", z.backspace(100), 100);
        z.undo();
        due.same("5 undo", z.length(), 256);
    }

    private static void shrinking() {
        GapBuffer x = new GapBuffer();
        x.fill('a', 17);
        due.same("shrink: capacity before", x.capacity(), 32);
        x.backspace(8);
        due.same("shrink: more than a quarter", x.capacity(), 32);
        int copied = x.copied();
        x.backspace(1);
        due.same("shrink: a quarter", x.capacity(), 16);
        due.same("shrink: once", x.shrinks(), 1);
        due.same("shrink: the text is copied", x.copied() - copied, 8);
        due.same("shrink: the gap start stays", x.gapStart(), 8);
        x.backspace(100);
        due.same("shrink: not below 8", x.capacity(), 8);
        due.same("shrink: twice", x.shrinks(), 2);

        GapBuffer y = full();
        y.moveTo(3);
        y.erase(100);
        y.erase(100);
        due.same("shrink: 56 of 256", y.capacity(), 128);
        y.erase(100);
        due.same("shrink: 3 of 128", y.capacity(), 8);
        due.same("shrink: by two edits", y.shrinks(), 5);
        due.same("shrink: cells", Due.cells(y), "abc_____");

        GapBuffer z = full();
        z.backspace(100);
        z.backspace(91);
        due.same("shrink: 65 of 256", z.capacity(), 256);
        z.backspace(64);
        due.same("shrink: 1 of 256", z.capacity(), 8);
        due.same("shrink: five times by one edit", z.shrinks(), 5);
    }

    private static GapBuffer full() {
        GapBuffer x = Due.typed("abc");
        x.fill('d', 100);
        x.fill('e', 100);
        x.fill('f', 53);
        return x;
    }
}
