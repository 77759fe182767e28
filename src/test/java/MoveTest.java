/** Promises 6 to 11: moveTo, moveBy, up, down, moveInLine, setEager; the goal column. */
final class MoveTest {
    private static final Due due = new Due();

    public static void main(String[] args) {
        promise6();
        promise7();
        promises8And9();
        goalColumn();
        promise10();
        promise11();
        due.close();
    }

    private static void promise6() {
        GapBuffer x = Due.typed("abcdef");
        due.same("6 not eager", x.moveTo(2), 0);
        due.same("6 caret", x.caret(), 2);
        due.same("6 gap stays", x.gapStart(), 6);
        due.same("6 beginning", x.moveTo(0), 0);
        due.same("6 end", x.moveTo(6), 0);
        x.setEager(true);
        due.same("6 eager", x.moveTo(1), 5);
        due.same("6 gap follows", x.gapStart(), 1);
        due.same("6 eager, other way", x.moveTo(4), 3);
        due.same("6 carried", x.carried(), 8);
        due.same("6 eager, same place", x.moveTo(4), 0);
        x.undo();
        x.undo();
        due.same("6 undoable", x.caret(), 1);
        int[] wrong = {-1, 7, Integer.MIN_VALUE, Integer.MAX_VALUE};
        for (int position : wrong) {
            due.refuses(x, "6 to " + position, IndexOutOfBoundsException.class,
                () -> x.moveTo(position));
        }
    }

    private static void promise7() {
        GapBuffer x = Due.typed("abcdef");
        due.same("7 back", x.moveBy(-2), 4);
        due.same("7 forth", x.moveBy(1), 5);
        due.same("7 not at all", x.moveBy(0), 5);
        due.same("7 at most the end", x.moveBy(2), 6);
        due.same("7 least", x.moveBy(-100), 0);
        due.same("7 greatest", x.moveBy(100), 6);
        due.same("7 gap stays", x.gapStart(), 6);
        due.same("7 undoable", x.savedStates(), 6);
        x.undo();
        due.same("7 undo", x.caret(), 0);
        x.setEager(true);
        due.same("7 eager", x.moveBy(4), 4);
        due.same("7 gap follows", x.gapStart(), 4);
        due.same("7 carried", x.carried(), 10);
        int[] wrong = {-101, 101, Integer.MIN_VALUE, Integer.MAX_VALUE};
        for (int count : wrong) {
            due.refuses(x, "7 by " + count, IllegalArgumentException.class,
                () -> x.moveBy(count));
        }
        GapBuffer y = new GapBuffer();
        y.fill('a', 100);
        y.fill('a', 100);
        due.same("7 a hundred", y.moveBy(-100), 100);
    }

    private static void promises8And9() {
        GapBuffer x = Due.typed("abcd\nef\n\nghij");
        x.moveTo(12);
        due.same("8 to the empty line", x.up(), 8);
        due.same("8 to a shorter line", x.up(), 7);
        due.same("8 to the goal column", x.up(), 3);
        due.same("8 stays in line 0", x.up(), 3);
        due.same("8 stays", x.caret(), 3);
        due.same("9 to a shorter line", x.down(), 7);
        due.same("9 to the empty line", x.down(), 8);
        due.same("9 to the goal column", x.down(), 12);
        due.same("9 stays in the last line", x.down(), 12);
        due.same("9 gap stays", x.gapStart(), 13);
        due.same("8 9 undoable though nothing changes", x.savedStates(), 6);
        x.undo();
        x.undo();
        due.same("9 undo", x.caret(), 8);
        x.setEager(true);
        due.same("9 eager", x.down(), 12);
        due.same("9 gap follows", x.gapStart(), 12);
        due.same("8 eager", x.up(), 8);
        due.same("8 gap follows", x.gapStart(), 8);
        due.same("8 9 carried", x.carried(), 5 + 4 + 4);

        GapBuffer y = new GapBuffer();
        due.same("8 no text", y.up(), 0);
        due.same("9 no text", y.down(), 0);
        due.same("8 saved", y.savedStates(), 2);
        y.type(10);
        due.same("8 from the empty last line", y.up(), 0);
        due.same("9 to the empty last line", y.down(), 1);
    }

    private static void goalColumn() {
        GapBuffer x = Due.typed("abcdef\ng\nhijklm");
        x.moveTo(14);
        x.up();
        x.moveTo(8);
        due.same("goal: moveTo the same place", x.up(), 1);
        x.down();
        x.moveTo(14);
        x.up();
        x.moveBy(0);
        due.same("goal: moveBy none", x.up(), 1);
        x.moveTo(14);
        x.up();
        x.moveInLine(true);
        due.same("goal: moveInLine", x.up(), 1);
        x.moveTo(14);
        x.up();
        x.erase(1);
        x.undo();
        due.same("goal: undone with the rest", x.up(), 5);
        x.moveTo(7);
        x.backspace(1);
        due.same("goal: backspace", x.down(), 14);
        x.undo();
        x.undo();
        x.moveTo(14);
        x.up();
        x.up();
        x.setEager(true);
        x.setMark(0, 0);
        x.copy(0);
        due.same("goal: setEager, setMark, copy keep it", x.caret(), 5);
        x.down();
        due.same("goal: kept", x.down(), 14);

        GapBuffer y = Due.typed("abcdef\ng\nhi");
        y.moveTo(5);
        y.down();
        due.same("goal: a line that ends the text", y.down(), 11);
        due.same("goal: not behind the text", y.down(), 11);
        due.same("goal: none deleted, still as it was", y.erase(1), 0);
        y.up();
        due.same("goal: set though none is deleted", y.up(), 2);
        y.moveTo(5);
        y.down();
        y.down();
        y.setMark(1, 0);
        y.cut(1);
        y.up();
        due.same("goal: cut of no byte", y.up(), 2);
        y.moveTo(5);
        y.down();
        y.type('z');
        due.same("goal: type", y.up(), 2);
        y.moveTo(5);
        y.down();
        y.fill('z', 2);
        due.same("goal: fill", y.up(), 4);
        y.moveTo(5);
        y.down();
        due.same("goal: a command of a mark keeps it", Due.command(y, "m2"), 0);
        due.same("goal: kept", y.up(), 5);
        y.down();
        due.same("goal: a command that fails keeps it", Due.command(y, "@99"), 5);
        due.same("goal: kept", y.up(), 5);
        y.down();
        due.same("goal: a command of moving", Due.command(y, "@11"), 0);
        due.same("goal: set", y.up(), 4);
        y.moveTo(11);
        y.setMark(0, 0);
        y.moveTo(9);
        y.copy(0);
        y.moveTo(0);
        y.down();
        y.paste();
        due.same("goal: paste", y.up(), 2);
    }

    private static void promise10() {
        GapBuffer x = Due.typed("abc\ndef\n");
        x.moveTo(5);
        due.same("10 end", x.moveInLine(true), 7);
        due.same("10 end again", x.moveInLine(true), 7);
        due.same("10 beginning", x.moveInLine(false), 4);
        due.same("10 beginning again", x.moveInLine(false), 4);
        due.same("10 caret", x.caret(), 4);
        due.same("10 gap stays", x.gapStart(), 8);
        due.same("10 undoable", x.savedStates(), 6);
        x.undo();
        x.undo();
        due.same("10 undo", x.caret(), 7);
        x.moveTo(2);
        due.same("10 line 0", x.moveInLine(false), 0);
        due.same("10 line 0", x.moveInLine(true), 3);
        x.moveTo(8);
        due.same("10 the empty last line", x.moveInLine(false), 8);
        due.same("10 the empty last line", x.moveInLine(true), 8);
        x.setEager(true);
        x.moveTo(6);
        due.same("10 eager", x.moveInLine(false), 4);
        due.same("10 gap follows", x.gapStart(), 4);
        due.same("10 carried", x.carried(), 4);
    }

    private static void promise11() {
        GapBuffer x = Due.typed("abcdef");
        x.moveTo(2);
        due.same("11 off", x.setEager(false), 0);
        due.same("11 gap stays", x.gapStart(), 6);
        due.same("11 on", x.setEager(true), 4);
        due.same("11 gap", x.gapStart(), 2);
        due.same("11 on again", x.setEager(true), 0);
        due.same("11 carried", x.carried(), 4);
        x.moveTo(5);
        due.same("11 follows", x.gapStart(), 5);
        due.same("11 off", x.setEager(false), 0);
        x.moveTo(0);
        due.same("11 follows no more", x.gapStart(), 5);
        due.same("11 undoable", x.savedStates(), 6);
        x.undo();
        x.undo();
        x.moveTo(1);
        due.same("11 eager again by undo", x.gapStart(), 1);
        long eager = x.digest();
        x.setEager(false);
        due.holds("11 in the digest", eager != x.digest());
    }
}
