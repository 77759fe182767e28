/** Promises 41 to 43: undo, savedStates, digest; what is undoable and what is not. */
final class UndoTest {
    private static final Class<IllegalStateException> STATE = IllegalStateException.class;

    private static final Due due = new Due();

    public static void main(String[] args) {
        promise41();
        everyUndoable();
        notUndoable();
        ring();
        promise43();
        due.close();
    }

    private static void promise41() {
        GapBuffer x = new GapBuffer();
        due.refuses(x, "41 no state", STATE, () -> x.undo());
        x.type('a');
        due.same("42 one", x.savedStates(), 1);
        due.same("41 none left", x.undo(), 0);
        due.same("41 length", x.length(), 0);
        due.same("42 none", x.savedStates(), 0);
        due.refuses(x, "41 no state", STATE, () -> x.undo());
        x.type('b');
        due.same("41 text", Due.text(x), "b");
        for (int i = 1; i <= 10; i++) {
            x.type('c');
            due.same("42 at most six", x.savedStates(), Math.min(6, i + 1));
        }
        for (int left = 5; left >= 0; left--) {
            due.same("41 left", x.undo(), left);
            due.same("41 the newest first", x.length(), 5 + left);
        }
        due.refuses(x, "41 the oldest are discarded", STATE, () -> x.undo());
    }

    private interface Step {
        void on(GapBuffer x);
    }

    /** Each saves one state, also where nothing changes, and undo brings all of it back. */
    private static void everyUndoable() {
        Step[] steps = {
            x -> x.type('q'), x -> x.fill('q', 20), x -> x.erase(3), x -> x.backspace(3),
            x -> x.moveTo(1), x -> x.moveBy(-1), x -> x.up(), x -> x.down(),
            x -> x.moveInLine(true), x -> x.moveInLine(false), x -> x.setEager(true),
            x -> x.setEager(false), x -> x.setMark(2, 1), x -> x.setMark(0, 1), x -> x.copy(0),
            x -> x.cut(0), x -> x.paste(), x -> Due.command(x, "@0;+r;x0;m1;p"),
            x -> Due.command(x, "x3"), x -> x.moveBy(0),
        };
        for (int i = 0; i < steps.length; i++) {
            GapBuffer x = someState();
            String before = Due.everything(x);
            int saved = x.savedStates();
            steps[i].on(x);
            due.same("42 saved by step " + i, x.savedStates(), saved + 1);
            x.undo();
            due.same("41 undone, step " + i, Due.everything(x), before);
            due.same("41 goal column, step " + i, x.up(), 4);
        }
    }

    private static GapBuffer someState() {
        GapBuffer x = new GapBuffer();
        Due.command(x, "+abcdefg;n;+hi;n;+jklmno;@15;m0;<1;x0");
        Due.command(x, "@13;m0;m1;@4");
        x.down();
        for (int undone = 0; undone < 3; undone++) {
            x.undo();
        }
        Due.command(x, "+abcdefg;n;+hi;n;+jklmno;@12;m0;@14;x0;@14;m1;@4");
        x.down();
        return x;
    }

    private static void notUndoable() {
        Step[] steps = {
            x -> x.mark(0), x -> x.clip(0), x -> x.find(0), x -> x.length(), x -> x.caret(),
            x -> x.byteAt(0), x -> x.lines(), x -> x.lineOf(9), x -> x.columnOf(9),
            x -> x.lineStart(1), x -> x.lineLength(1), x -> x.capacity(), x -> x.gapStart(),
            x -> x.cell(1), x -> x.carried(), x -> x.copied(), x -> x.growths(), x -> x.shrinks(),
            x -> x.costOf(0, 100), x -> x.costOfTwo(0, 1), x -> x.room(), x -> x.firstError(),
            x -> x.savedStates(), x -> x.digest(), x -> x.append('n'), x -> x.clearCommands(),
        };
        GapBuffer x = someState();
        long digest = x.digest();
        for (int i = 0; i < steps.length; i++) {
            steps[i].on(x);
            due.same("42 not undoable, step " + i, x.savedStates(), 2);
            due.same("43 nothing changed, step " + i, x.digest(), digest);
        }
        due.same("41 goal column", x.up(), 4);
    }

    /** The ring of states goes round more than once, with undo in between. */
    private static void ring() {
        GapBuffer x = new GapBuffer();
        int length = 0;
        int saved = 0;
        for (int i = 0; i < 170; i++) {
            if (i % 7 < 4 || saved == 0) {
                x.fill('a', 1);
                length++;
                saved = Math.min(6, saved + 1);
            } else {
                x.undo();
                length--;
                saved--;
            }
            due.same("41 length", x.length(), length);
            due.same("42 saved", x.savedStates(), saved);
        }
    }

    private static void promise43() {
        long[] empty = {0, 0, 8, 0, 0, 0, 0, 0, 1, 0, 0, -1, -1, -1, -1, 0};
        due.same("43 empty", new GapBuffer().digest(), hash(empty));

        GapBuffer x = Due.typed("abc\nde");
        x.moveTo(2);
        x.setMark(1, 1);
        x.moveTo(5);
        x.setEager(true);
        x.copy(1);
        long[] some = {6, 5, 8, 5, 1, 0, 0, 0, 2, 1, 1, -1, 2, -1, -1,
            'a', 'b', 'c', 10, 'd', 'e', 3, 'c', 10, 'd'};
        due.same("43 some", x.digest(), hash(some));
        due.same("43 again", x.digest(), hash(some));

        GapBuffer y = new GapBuffer();
        y.fill('z', 9);
        y.backspace(6);
        y.setMark(0, 0);
        y.setMark(3, 0);
        y.moveTo(1);
        long[] other = {3, 1, 8, 3, 0, 3, 1, 1, 1, 1, 0, 3, -1, -1, 3, 'z', 'z', 'z', 0};
        due.same("43 other", y.digest(), hash(other));
    }

    private static long hash(long[] values) {
        long hash = 8134;
        for (long value : values) {
            hash = 31 * hash + value;
        }
        return hash;
    }
}
