/** Promises 12 to 18: setMark, copy, cut, paste, mark, clip, find. */
final class MarkTest {
    private static final Class<IllegalArgumentException> ARGUMENT = IllegalArgumentException.class;
    private static final Class<IllegalStateException> STATE = IllegalStateException.class;
    private static final Class<IndexOutOfBoundsException> INDEX = IndexOutOfBoundsException.class;
    private static final int[] NO_MARKS = {-1, 4, Integer.MIN_VALUE, Integer.MAX_VALUE};

    private static final Due due = new Due();

    public static void main(String[] args) {
        promise12();
        shiftedMarks();
        promise13();
        promise14();
        promise15();
        promises16And17();
        promise18();
        due.close();
    }

    private static void promise12() {
        GapBuffer x = Due.typed("abc");
        due.same("12 not set before", x.setMark(3, 0), -1);
        x.moveTo(1);
        due.same("12 previous", x.setMark(3, 1), 3);
        due.same("12 new", x.mark(3), 1);
        due.same("12 others", x.mark(2), -1);
        x.undo();
        due.same("12 undo", x.mark(3), 3);
        for (int mark : NO_MARKS) {
            due.refuses(x, "12 mark " + mark, INDEX, () -> x.setMark(mark, 0));
            due.refuses(x, "12 mark first " + mark, INDEX, () -> x.setMark(mark, 2));
        }
        int[] sides = {-1, 2, Integer.MIN_VALUE, Integer.MAX_VALUE};
        for (int side : sides) {
            due.refuses(x, "12 side " + side, ARGUMENT, () -> x.setMark(0, side));
        }
    }

    private static void shiftedMarks() {
        GapBuffer x = Due.typed("abcdef");
        Due.markAt(x, 0, 2, 0);
        Due.markAt(x, 1, 2, 1);
        Due.markAt(x, 2, 1, 1);
        Due.markAt(x, 3, 3, 0);
        x.moveTo(2);
        x.fill('x', 3);
        due.same("marks: left stays", x.mark(0), 2);
        due.same("marks: right moves", x.mark(1), 5);
        due.same("marks: before stays", x.mark(2), 1);
        due.same("marks: behind moves", x.mark(3), 6);
        x.moveTo(1);
        x.erase(5);
        due.same("marks: first stays", x.mark(2), 1);
        due.same("marks: between", x.mark(0), 1);
        due.same("marks: between", x.mark(1), 1);
        due.same("marks: last", x.mark(3), 1);
        x.undo();
        Due.markAt(x, 2, 9, 0);
        x.moveTo(5);
        x.backspace(2);
        due.same("marks: before stays", x.mark(0), 2);
        due.same("marks: behind moves", x.mark(2), 7);
        due.same("marks: just behind moves", x.mark(1), 3);
        due.same("marks: behind moves", x.mark(3), 4);
        x.type('y');
        due.same("marks: the side stays with the mark", x.mark(1), 4);
        x.moveTo(2);
        x.type('z');
        due.same("marks: the left one", x.mark(0), 2);
        GapBuffer y = new GapBuffer();
        y.setMark(0, 1);
        y.setMark(0, 0);
        y.type('a');
        due.same("marks: the newer side counts", y.mark(0), 0);
        due.same("marks: not set", y.mark(1), -1);
        y.moveTo(0);
        y.setMark(0, 1);
        y.moveTo(1);
        y.setMark(0, 0);
        y.undo();
        y.undo();
        y.moveTo(0);
        y.type('b');
        due.same("marks: undo brings the side back", y.mark(0), 1);
    }

    private static void promise13() {
        GapBuffer x = Due.typed("abcdef");
        Due.markAt(x, 1, 2, 0);
        x.moveTo(5);
        due.same("13 mark before the caret", x.copy(1), 3);
        due.same("13 clipboard", Due.clipboard(x), "cde");
        x.moveTo(0);
        due.same("13 mark behind the caret", x.copy(1), 2);
        due.same("13 in place of what it had", Due.clipboard(x), "ab");
        due.same("13 text stays", Due.text(x), "abcdef");
        due.same("13 gap stays", x.gapStart(), 6);
        x.moveTo(2);
        due.same("13 no byte", x.copy(1), 0);
        due.same("13 empty", x.clip(0), -1);
        x.undo();
        due.same("13 undo", Due.clipboard(x), "ab");
        for (int mark : NO_MARKS) {
            due.refuses(x, "13 mark " + mark, INDEX, () -> x.copy(mark));
        }
        due.refuses(x, "13 not set", STATE, () -> x.copy(0));
        tooLong("13", true);
    }

    private static void tooLong(String promise, boolean isCopy) {
        GapBuffer x = new GapBuffer();
        x.setMark(2, 0);
        x.fill('a', 61);
        due.refuses(x, promise + " 61 bytes before", STATE, () -> isCopy ? x.copy(2) : x.cut(2));
        x.setMark(2, 0);
        x.moveTo(0);
        due.refuses(x, promise + " 61 bytes behind", STATE, () -> isCopy ? x.copy(2) : x.cut(2));
        x.moveTo(1);
        due.same(promise + " 60 bytes", isCopy ? x.copy(2) : x.cut(2), 60);
        due.same(promise + " length", x.length(), isCopy ? 61 : 1);
    }

    private static void promise14() {
        GapBuffer x = Due.typed("abcdef");
        Due.markAt(x, 0, 1, 1);
        Due.markAt(x, 3, 6, 0);
        x.moveTo(4);
        due.same("14 mark before the caret", x.cut(0), 3);
        due.same("14 clipboard", Due.clipboard(x), "bcd");
        due.same("14 text", Due.text(x), "aef");
        due.same("14 caret", x.caret(), 1);
        due.same("14 gap", x.gapStart(), 1);
        due.same("14 carried to the caret only", x.carried(), 2);
        due.same("14 marks", x.mark(0), 1);
        due.same("14 marks", x.mark(3), 3);
        due.same("14 mark behind the caret", x.cut(3), 2);
        due.same("14 clipboard", Due.clipboard(x), "ef");
        due.same("14 text", Due.text(x), "a");
        due.same("14 caret", x.caret(), 1);
        x.moveTo(0);
        x.moveTo(1);
        x.cut(3);
        due.same("14 no byte", Due.clipboard(x), "");
        x.undo();
        due.same("14 undo", Due.clipboard(x), "ef");
        x.undo();
        x.undo();
        x.undo();
        due.same("14 undo", Due.text(x), "aef");
        for (int mark : NO_MARKS) {
            due.refuses(x, "14 mark " + mark, INDEX, () -> x.cut(mark));
        }
        due.refuses(x, "14 not set", STATE, () -> x.cut(2));
        tooLong("14", false);

        GapBuffer y = Due.typed("abc");
        y.moveTo(1);
        y.setMark(0, 0);
        y.cut(0);
        due.same("14 gap not moved if none is deleted", y.gapStart(), 3);
        GapBuffer z = new GapBuffer();
        z.setMark(0, 0);
        z.fill('a', 60);
        z.cut(0);
        due.same("14 shrinks", z.capacity(), 8);
        due.same("14 shrinks", z.shrinks(), 3);
    }

    private static void promise15() {
        GapBuffer x = Due.typed("abcd");
        due.refuses(x, "15 empty", STATE, () -> x.paste());
        Due.markAt(x, 0, 1, 0);
        x.moveTo(3);
        x.copy(0);
        x.moveTo(0);
        due.same("15 paste", x.paste(), 6);
        due.same("15 text", Due.text(x), "bcabcd");
        due.same("15 caret", x.caret(), 2);
        due.same("15 gap", x.gapStart(), 2);
        due.same("15 clipboard stays", Due.clipboard(x), "bc");
        due.same("15 again", x.paste(), 8);
        due.same("15 text", Due.text(x), "bcbcabcd");
        due.same("15 grows", x.paste(), 10);
        due.same("15 growths", x.growths(), 1);
        x.undo();
        due.same("15 undo", x.length(), 8);

        GapBuffer y = new GapBuffer();
        y.setMark(0, 0);
        y.fill('a', 60);
        y.cut(0);
        int copied = y.copied();
        y.type('b');
        y.paste();
        due.same("15 as one edit", y.copied() - copied, 3);
        y.paste();
        y.paste();
        due.same("15 nearly full", y.paste(), 241);
        due.refuses(y, "15 no room", STATE, () -> y.paste());
        y.moveTo(0);
        y.erase(45);
        due.same("15 just full", y.paste(), 256);
    }

    private static void promises16And17() {
        GapBuffer x = Due.typed("abcd");
        due.same("16 not set", x.mark(0), -1);
        x.setMark(0, 0);
        x.moveTo(2);
        x.setMark(3, 0);
        due.same("16 set", x.mark(0), 4);
        due.same("16 set", x.mark(3), 2);
        for (int mark : NO_MARKS) {
            due.refuses(x, "16 mark " + mark, INDEX, () -> x.mark(mark));
        }
        due.same("17 empty", x.clip(0), -1);
        x.copy(0);
        due.same("17 first", x.clip(0), 'c');
        due.same("17 last", x.clip(1), 'd');
        due.same("17 behind", x.clip(2), -1);
        due.same("17 far behind", x.clip(60), -1);
        due.same("17 greatest", x.clip(Integer.MAX_VALUE), -1);
        due.refuses(x, "17 negative", INDEX, () -> x.clip(-1));
        due.refuses(x, "17 least", INDEX, () -> x.clip(Integer.MIN_VALUE));
    }

    private static void promise18() {
        GapBuffer x = Due.typed("aabaabab");
        due.same("18 empty clipboard", x.find(0), -1);
        Due.markAt(x, 0, 1, 0);
        x.moveTo(3);
        x.copy(0);
        due.same("18 first", x.find(0), 1);
        due.same("18 from", x.find(1), 1);
        due.same("18 next", x.find(2), 4);
        due.same("18 last", x.find(6), 6);
        due.same("18 none", x.find(7), -1);
        due.same("18 from the end", x.find(8), -1);
        int[] wrong = {-1, 9, Integer.MIN_VALUE, Integer.MAX_VALUE};
        for (int from : wrong) {
            due.refuses(x, "18 from " + from, INDEX, () -> x.find(from));
        }
        Due.markAt(x, 0, 0, 0);
        x.moveTo(8);
        x.copy(0);
        due.same("18 the whole text", x.find(0), 0);
        x.erase(100);
        x.backspace(1);
        due.same("18 longer than the text", x.find(0), -1);

        GapBuffer y = new GapBuffer();
        due.refuses(y, "18 wrong and empty", INDEX, () -> y.find(1));
        Due.command(y, "+bbaacab;@5;m0;@7;x0");
        due.same("18 all bytes of the clipboard", Due.clipboard(y), "ab");
        y.fill('b', 2);
        y.paste();
        due.same("18 text", Due.text(y), "bbaacbbab");
        due.same("18 not by the last byte alone", y.find(0), 7);
    }
}
