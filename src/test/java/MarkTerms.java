/** The sentences under "Marks" and "Clipboard". */
final class MarkTerms extends Chapter {
    private static final int LEFT = 0;
    private static final int RIGHT = 1;

    MarkTerms(Sentences sentences, Due due) {
        super(sentences, due);
    }

    @Override
    void all() {
        under("Marks");
        test("There are four marks, numbered from 0, which are not set at first.", this::four);
        test("A set mark has a position and a side, left (0) or right (1).", this::sides);
        test("When bytes are inserted at a position, marks behind this position move by the number"
            + " of these bytes, and so do marks at this position if their side is right.",
            this::insertion);
        test("When bytes are deleted, marks behind them move by their number, and marks between the"
            + " first and the last of them move to where the first one was.", this::deletion);
        under("Clipboard");
        test("The clipboard contains 0 to 60 bytes, none at first.", this::clipboard);
        test("The region of a mark consists of the bytes between the mark and the caret.",
            this::region);
    }

    private void four() {
        GapBuffer x = new GapBuffer();
        for (int mark = 0; mark < 4; mark++) {
            int number = mark;
            same("mark " + mark, x.mark(mark), NONE);
            same("copy of " + mark, outcome(x, y -> y.copy(number)),
                "throws java.lang.IllegalStateException");
            same("command x" + mark, Due.command(x, "x" + mark), 2);
            same("command m" + mark, Due.command(Due.made("m" + mark), "x" + mark), 0);
        }
        same("no mark -1", outcome(x, y -> y.mark(-1)),
            "throws java.lang.IndexOutOfBoundsException");
        same("no mark 4", outcome(x, y -> y.mark(4)),
            "throws java.lang.IndexOutOfBoundsException");
        x.fill('a', 9);
        x.moveTo(0);
        x.type('b');
        x.backspace(1);
        x.erase(5);
        x.moveTo(2);
        x.setMark(1, RIGHT);
        x.type('c');
        x.backspace(3);
        for (int mark = 0; mark < 4; mark++) {
            same("edits leave mark " + mark, x.mark(mark), mark == 1 ? 0 : NONE);
        }
    }

    private void sides() {
        GapBuffer x = new GapBuffer();
        x.setMark(0, LEFT);
        x.setMark(1, RIGHT);
        same("both at 0", x.mark(0) + x.mark(1), 0);
        x.type('a');
        same("left", x.mark(0), 0);
        same("right", x.mark(1), 1);
        x.backspace(1);
        x.type('b');
        same("left keeps its side", x.mark(0), 0);
        same("right keeps its side", x.mark(1), 1);
        x.setMark(0, RIGHT);
        x.setMark(1, LEFT);
        x.type('c');
        same("now right", x.mark(0), 2);
        same("now left", x.mark(1), 1);
        x.undo();
        x.undo();
        x.type('d');
        same("right again by undo", x.mark(1), 2);
        same("right still", x.mark(0), 2);
    }

    /** At, just before and just behind the insertion, and at both ends of the text. */
    private void insertion() {
        for (Insertion way : Insertion.values()) {
            for (int caret : new int[] {0, 4, 8}) {
                for (int position = 0; position <= 8; position++) {
                    same(way + " at " + caret + ", left " + position,
                        afterInsertion(way, caret, position, LEFT),
                        position > caret ? position + 1 : position);
                    same(way + " at " + caret + ", right " + position,
                        afterInsertion(way, caret, position, RIGHT),
                        position >= caret ? position + 1 : position);
                }
            }
        }
        GapBuffer x = Due.filled(156);
        x.moveTo(50);
        x.setMark(0, LEFT);
        x.setMark(1, RIGHT);
        Due.markAt(x, 2, 49, RIGHT);
        Due.markAt(x, 3, 51, LEFT);
        x.fill('b', 100);
        same("left of 100", x.mark(0), 50);
        same("right of 100", x.mark(1), 150);
        same("just before 100", x.mark(2), 49);
        same("just behind 100", x.mark(3), 151);
        GapBuffer y = Due.made("+abcde;m0;@1;m1;+abcdefghijklmnopqrst");
        same("behind 20 letters", y.mark(0), 25);
        same("right of 20 letters", y.mark(1), 21);
        GapBuffer z = Due.made("m0;m1");
        z.fill('a', 60);
        z.setMark(0, LEFT);
        z.setMark(1, RIGHT);
        z.moveTo(0);
        z.copy(0);
        z.moveTo(60);
        z.paste();
        same("left of a paste of 60", z.mark(0), 60);
        same("right of a paste of 60", z.mark(1), 120);
    }

    private static int afterInsertion(Insertion way, int caret, int position, int side) {
        GapBuffer x = Insertion.ready(8);
        Due.markAt(x, 2, position, side);
        x.moveTo(caret);
        way.on(x);
        return x.mark(2);
    }

    /** Bytes 3 to 5 of nine are deleted; marks before, at, between and behind them. */
    private void deletion() {
        int[] moved = {0, 1, 2, 3, 3, 3, 3, 4, 5, 6};
        for (Deletion way : Deletion.values()) {
            for (int side = LEFT; side <= RIGHT; side++) {
                for (int position = 0; position <= 9; position++) {
                    for (boolean isBefore : new boolean[] {true, false}) {
                        GapBuffer x = Due.typed("abcdefghi");
                        Due.markAt(x, 2, position, side);
                        x.moveTo(isBefore ? 6 : 3);
                        way.on(x, 3, isBefore);
                        same(way + ", mark at " + position, x.mark(2), moved[position]);
                        x.moveTo(x.mark(2));
                        x.type('s');
                        same(way + " keeps the side", x.mark(2), moved[position] + side);
                    }
                }
            }
        }
        fewerBytes();
        for (Deletion way : Deletion.values()) {
            for (int position = 0; position <= 4; position++) {
                GapBuffer x = Due.typed("abcd");
                Due.markAt(x, 2, position, position % 2);
                way.ofNone(x, true);
                same(way + " of none", x.mark(2), position);
                way.ofNone(x, false);
                same(way + " of none", x.mark(2), position);
            }
        }
    }

    /** Marks move by the bytes that are there, not by those that are asked for. */
    private void fewerBytes() {
        for (Deletion way : new Deletion[] {Deletion.METHOD, Deletion.COMMAND}) {
            int[] behind = {0, 5, 6, 6, 6};
            int[] before = {0, 0, 0, 1, 2};
            int[] positions = {0, 5, 6, 7, 8};
            for (int i = 0; i < positions.length; i++) {
                GapBuffer x = Due.typed("abcdefgh");
                Due.markAt(x, 2, positions[i], RIGHT);
                x.moveTo(6);
                way.on(x, 99, false);
                same(way + " of two behind", x.mark(2), behind[i]);
                GapBuffer y = Due.typed("abcdefgh");
                Due.markAt(y, 2, positions[i], LEFT);
                y.moveTo(6);
                way.on(y, 99, true);
                same(way + " of six before", y.mark(2), before[i]);
            }
        }
    }

    private void clipboard() {
        GapBuffer x = new GapBuffer();
        same("none at first", x.clip(0), NONE);
        same("none to be pasted", Due.command(x, "p"), 4);
        x.setMark(0, LEFT);
        x.fill('a', 61);
        same("61", outcome(x, y -> y.copy(0)), "throws java.lang.IllegalStateException");
        same("still none", x.clip(0), NONE);
        x.moveBy(-1);
        same("60", x.copy(0), 60);
        same("the 60th", x.clip(59), 'a');
        same("no 61st", x.clip(60), NONE);
        same("paste of 60", x.paste(), 121);
        x.setMark(0, LEFT);
        same("0", x.copy(0), 0);
        same("none again", x.clip(0), NONE);
        same("none to be pasted again", outcome(x, y -> y.paste()),
            "throws java.lang.IllegalStateException");
    }

    private void region() {
        int[] carets = {0, 1, 2, 3, 4, 5};
        String[] regions = {"abc", "bc", "c", "", "d", "de"};
        for (int i = 0; i < carets.length; i++) {
            GapBuffer x = Due.typed("abcde");
            Due.markAt(x, 0, 3, LEFT);
            x.moveTo(carets[i]);
            same("copy at " + carets[i], x.copy(0), regions[i].length());
            same("copy at " + carets[i], Due.clipboard(x), regions[i]);
            x.cut(0);
            same("cut at " + carets[i], Due.clipboard(x), regions[i]);
            same("cut at " + carets[i], x.length(), 5 - regions[i].length());
        }
        GapBuffer none = Due.made("m0;x0");
        same("of no text", none.clip(0), NONE);
        for (int length : new int[] {59, 60, 61}) {
            for (boolean isBehind : new boolean[] {true, false}) {
                for (Call call : new Call[] {x -> x.copy(1), x -> x.cut(1)}) {
                    GapBuffer x = Due.filled(length + 20);
                    Due.markAt(x, 1, isBehind ? length + 10 : 10, RIGHT);
                    x.moveTo(isBehind ? 10 : length + 10);
                    same("of " + length, outcome(x, call), length <= 60 ? String.valueOf(length)
                        : "throws java.lang.IllegalStateException");
                }
                GapBuffer y = Due.filled(length + 20);
                Due.markAt(y, 1, isBehind ? length + 10 : 10, RIGHT);
                y.moveTo(isBehind ? 10 : length + 10);
                same("command of " + length, Due.command(y, "x1"), length <= 60 ? 0 : 3);
            }
        }
    }
}
