/** The sentences under "Lines". */
final class LineTerms extends Chapter {
    LineTerms(Sentences sentences, Due due) {
        super(sentences, due);
    }

    @Override
    void all() {
        under("Lines");
        test("The lines of the text are separated by line breaks, which belong to no line; so there"
            + " is one more line than there are line breaks.", this::lines);
        test("Lines are numbered from 0.", this::numbers);
        test("The column of a position is the number of bytes between it and the beginning of its"
            + " line.", this::columns);
        test("The line of a position is the number of line breaks before it.", this::lineOf);
        test("There is a goal column.", this::goal);
        test("When the caret is moved up or down, it moves to the previous or the next line, to the"
            + " goal column, or to the end of the line if the line is shorter.", this::upAndDown);
        test("The goal column becomes the column of the caret whenever the caret is moved in"
            + " another way, or bytes are inserted or deleted (also if none are deleted).", () -> {
                goalOfMoves();
                goalOfInsertions();
                goalOfDeletions();
                goalOfDeletionsOfNone();
                goalThatStays();
            });
    }

    private void lines() {
        String[] texts = {"", "a", "\n", "a\n", "\na", "\n\n", "a\n\nb", "ab\ncd\n"};
        int[][] lengths = {{0}, {1}, {0, 0}, {1, 0}, {0, 1}, {0, 0, 0}, {1, 0, 1}, {2, 2, 0}};
        for (int i = 0; i < texts.length; i++) {
            GapBuffer x = Due.typed(texts[i]);
            same("lines of text " + i, x.lines(), lengths[i].length);
            for (int line = 0; line < lengths[i].length; line++) {
                same("length of line " + line, x.lineLength(line), lengths[i][line]);
            }
        }
        GapBuffer breaks = new GapBuffer();
        breaks.fill(10, 100);
        breaks.fill(10, 100);
        breaks.fill(10, 56);
        same("256 line breaks", breaks.lines(), 257);
        same("256 line breaks", breaks.lineLength(0) + breaks.lineLength(256), 0);
        same("no line break in 256", Due.filled(256).lines(), 1);
        same("no line break in 256", Due.filled(256).lineLength(0), 256);
        GapBuffer x = Due.typed("a\nb");
        x.backspace(2);
        same("a line break is deleted", x.lines(), 1);
    }

    private void numbers() {
        for (String text : new String[] {"", "a\nb", "\n\n\n"}) {
            GapBuffer x = Due.typed(text);
            same("the first", x.lineOf(0), 0);
            same("the first begins", x.lineStart(0), 0);
            same("the last", x.lineOf(x.length()), x.lines() - 1);
            same("no line before", outcome(x, y -> y.lineStart(-1)),
                "throws java.lang.IndexOutOfBoundsException");
            same("no line behind", outcome(x, y -> y.lineStart(y.lines())),
                "throws java.lang.IndexOutOfBoundsException");
        }
    }

    private void columns() {
        GapBuffer x = Due.typed("ab\n\nc");
        int[] columns = {0, 1, 2, 0, 0, 1};
        for (int position = 0; position < columns.length; position++) {
            same("of " + position, x.columnOf(position), columns[position]);
        }
        same("without text", new GapBuffer().columnOf(0), 0);
        GapBuffer full = Due.filled(256);
        same("the last of 256", full.columnOf(256), 256);
        full.backspace(1);
        full.type(10);
        same("behind a line break", full.columnOf(256), 0);
        same("before a line break", full.columnOf(255), 255);
    }

    private void lineOf() {
        GapBuffer x = Due.typed("ab\n\nc");
        int[] lines = {0, 0, 0, 1, 2, 2};
        for (int position = 0; position < lines.length; position++) {
            same("of " + position, x.lineOf(position), lines[position]);
        }
        same("without text", new GapBuffer().lineOf(0), 0);
        GapBuffer last = Due.typed("\n");
        same("before the only line break", last.lineOf(0), 0);
        same("behind it", last.lineOf(1), 1);
    }

    /** The caret is at the end of line 1, in column 1; the goal column is 5, mark 2 behind. */
    private static GapBuffer withGoal() {
        GapBuffer x = Insertion.ready(0);
        Due.command(x, "+abcdef;n;+g;n;+hijklm;@9;m2;@5");
        x.down();
        return x;
    }

    private void goal() {
        GapBuffer x = withGoal();
        same("in the shorter line", x.caret(), 8);
        same("kept through it", x.down(), 14);
        same("kept through it again", x.up(), 8);
        same("kept on the way back", x.up(), 5);
    }

    private void upAndDown() {
        GapBuffer x = Due.made("+abcd;n;+efg;n;+hijk;n;n;+lmnop;@3");
        same("to a line that ends at the goal", x.down(), 8);
        same("to a longer line", x.down(), 12);
        same("to an empty line", x.down(), 14);
        same("to the last line", x.down(), 18);
        same("no next line", x.down(), 18);
        same("back to the empty line", x.up(), 14);
        same("back to the longer line", x.up(), 12);
        same("back to the line that ends there", x.up(), 8);
        same("back to line 0", x.up(), 3);
        same("no previous line", x.up(), 3);
        x.moveTo(4);
        same("to a line shorter by one", x.down(), 8);
        same("to a line that ends at the goal", x.down(), 13);
        GapBuffer none = new GapBuffer();
        same("without text", none.up() + none.down(), 0);
        GapBuffer breaks = Due.typed("\n\n");
        same("of empty lines", breaks.up(), 1);
        same("of empty lines", breaks.up(), 0);
        same("of empty lines", breaks.up(), 0);
        same("of empty lines", breaks.down(), 1);
        same("of empty lines", breaks.down(), 2);
        same("of empty lines", breaks.down(), 2);
        GapBuffer zero = Due.typed("abc\nd");
        zero.moveTo(4);
        same("goal column 0", zero.up(), 0);
        zero.moveTo(3);
        same("to the end of the text", zero.down(), 5);
    }

    private void goalAfter(String what, Call call, int caret) {
        GapBuffer x = withGoal();
        call.on(x);
        same(what, x.up(), caret);
    }

    private void goalOfMoves() {
        goalAfter("none", x -> 0, 5);
        goalAfter("moveTo where it is", x -> x.moveTo(8), 1);
        goalAfter("moveTo", x -> x.moveTo(7), 0);
        goalAfter("moveBy 0", x -> x.moveBy(0), 1);
        goalAfter("moveBy", x -> x.moveBy(-1), 0);
        goalAfter("moveInLine where it is", x -> x.moveInLine(true), 1);
        goalAfter("moveInLine", x -> x.moveInLine(false), 0);
        goalAfter("the command where it is", x -> Due.command(x, "@8"), 1);
        goalAfter("the command", x -> Due.command(x, "@7"), 0);
        goalAfter("the command before one that fails", x -> Due.command(x, "@8;@99"), 1);
    }

    private void goalOfInsertions() {
        for (Insertion way : Insertion.values()) {
            boolean isBreak = way == Insertion.LINE_BREAK;
            goalAfter(way.toString(), way::on, isBreak ? 7 : 2);
        }
        goalAfter("fill", x -> x.fill('z', 100), 6);
        goalAfter("letters", x -> Due.command(x, "+zzz"), 4);
    }

    private void goalOfDeletions() {
        for (Deletion way : Deletion.values()) {
            goalAfter(way + " before", x -> way.on(x, 1, true), 0);
            goalAfter(way + " behind", x -> way.on(x, 1, false), 1);
        }
        goalAfter("cut behind, the mark set before", x -> x.cut(2), 1);
        goalAfter("its command, the mark set before", x -> Due.command(x, "x2"), 1);
    }

    private void goalOfDeletionsOfNone() {
        Call[] behind = {x -> x.erase(1), x -> x.erase(100), x -> x.cut(3),
            x -> Due.command(x, "-1"), x -> Due.command(x, "x3")};
        for (int i = 0; i < behind.length; i++) {
            GapBuffer x = Due.made("+abcdef;n;+g;m3;@5");
            x.down();
            behind[i].on(x);
            same("none at the end, way " + i, x.up(), 1);
        }
        Call[] before = {x -> x.backspace(1), x -> x.backspace(100), x -> x.cut(3),
            x -> Due.command(x, "<1"), x -> Due.command(x, "x3")};
        for (int i = 0; i < before.length; i++) {
            GapBuffer x = Due.made("n;+abcdef;@0;m3;@6");
            x.up();
            before[i].on(x);
            same("none at the beginning, way " + i, x.down(), 1);
        }
    }

    private void goalThatStays() {
        goalAfter("setEager", x -> x.setEager(true), 5);
        goalAfter("setMark", x -> x.setMark(0, 0), 5);
        goalAfter("copy", x -> x.copy(3), 5);
        goalAfter("undo of a move", x -> x.moveTo(3) + x.undo(), 5);
        goalAfter("a mark command", x -> Due.command(x, "m0"), 5);
        goalAfter("a command that fails", x -> Due.command(x, "@99"), 5);
        goalAfter("another that fails", x -> Due.command(x, "x0"), 5);
        goalAfter("a refused move", x -> outcome(x, y -> y.moveTo(99)).length(), 5);
        goalAfter("a refused deletion", x -> outcome(x, y -> y.erase(0)).length(), 5);
        goalAfter("columnOf", x -> x.columnOf(0), 5);
        GapBuffer top = Due.made("+g;n;+abcdef;@7");
        same("up, to a shorter line", top.up(), 1);
        same("up that stays", top.up(), 1);
        same("goal after that", top.down(), 7);
        GapBuffer last = Due.made("+abcdef;n;+g;@5");
        same("down, to a shorter line", last.down(), 8);
        same("down that stays", last.down(), 8);
        same("goal after that", last.up(), 5);
    }
}
