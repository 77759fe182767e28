/** The sentences of promises 19 to 26. */
final class TextPromises extends Chapter {
    /** Lines "ab", "", "cde" and "". */
    private static final String LINES = "ab\n\ncde\n";
    private static final Maker FULL = () -> Due.filled(256);

    TextPromises(Sentences sentences, Due due) {
        super(sentences, due);
    }

    @Override
    void all() {
        under("Promise 19");
        test("Returns the length of the text.", this::length);
        under("Promise 20");
        test("Returns the caret.", this::caret);
        under("Promise 21");
        byteAt();
        under("Promise 22");
        test("Returns the number of lines.", this::lines);
        under("Promise 23");
        lineOf();
        under("Promise 24");
        columnOf();
        under("Promise 25");
        lineStart();
        under("Promise 26");
        lineLength();
    }

    private void length() {
        GapBuffer x = new GapBuffer();
        same("empty", x.length(), 0);
        x.type(10);
        same("a line break is a byte", x.length(), 1);
        x.fill('a', 100);
        same("101", x.length(), 101);
        x.moveTo(0);
        same("not the caret", x.length(), 101);
        x.undo();
        x.undo();
        same("by undo", x.length(), 1);
        x.erase(1);
        x.backspace(1);
        same("empty again", x.length(), 0);
        same("full", Due.filled(256).length(), 256);
    }

    private void caret() {
        GapBuffer x = new GapBuffer();
        same("empty", x.caret(), 0);
        x.fill('a', 9);
        same("behind the bytes", x.caret(), 9);
        x.moveTo(4);
        same("not the gap", x.caret(), 4);
        x.erase(2);
        same("bytes behind it", x.caret(), 4);
        x.backspace(3);
        same("bytes before it", x.caret(), 1);
        x.undo();
        same("by undo", x.caret(), 4);
        same("full", Due.filled(256).caret(), 256);
    }

    private void byteAt() {
        test("Returns a byte of the text.", () -> {
            GapBuffer x = Due.typed(" a\n~");
            x.setEager(true);
            for (int gap = 0; gap <= 4; gap++) {
                x.moveTo(gap);
                for (int position = 0; position < 4; position++) {
                    same("with the gap at " + gap, x.byteAt(position), " a\n~".charAt(position));
                }
            }
        });
        test("`position`: its position", () -> {
            GapBuffer x = Due.filled(256);
            x.backspace(1);
            x.type('z');
            x.moveTo(0);
            x.erase(1);
            x.moveTo(0);
            x.type('y');
            same("the first", x.byteAt(0), 'y');
            same("the second", x.byteAt(1), 'a');
            same("the last but one", x.byteAt(254), 'a');
            same("the last", x.byteAt(255), 'z');
        });
        test("Returns the byte.", () -> {
            for (int code : new int[] {10, 32, 126}) {
                GapBuffer x = new GapBuffer();
                x.type(code);
                same("byte " + code, x.byteAt(0), code);
            }
        });
        test("Throws `IndexOutOfBoundsException` if there is no byte at this position", () -> {
            refusesOutside(0, rich().length() - 1, INDEX, Chapter::rich, (x, at) -> x.byteAt(at));
            refusesOutside(0, 255, INDEX, FULL, (x, at) -> x.byteAt(at));
            refuses("no byte", INDEX, GapBuffer::new, x -> x.byteAt(0));
            refuses("deleted", INDEX, () -> Due.made("+abc;<1"), x -> x.byteAt(2));
            refuses("in the gap", INDEX, () -> Due.made("+abc;@0;-1"), x -> x.byteAt(2));
        });
    }

    private void lines() {
        String[] texts = {"", "a", "\n", "\n\n", "a\n", "\na", "a\nb", LINES};
        int[] lines = {1, 1, 2, 3, 2, 2, 2, 4};
        for (int i = 0; i < texts.length; i++) {
            same("of text " + i, Due.typed(texts[i]).lines(), lines[i]);
        }
        GapBuffer x = new GapBuffer();
        x.fill(10, 100);
        same("100 line breaks", x.lines(), 101);
        x.fill(10, 100);
        x.fill(10, 56);
        same("256 line breaks", x.lines(), 257);
        same("256 others", Due.filled(256).lines(), 1);
    }

    private void lineOf() {
        int[] lines = {0, 0, 0, 1, 2, 2, 2, 2, 3};
        test("Returns the line of a position.", () -> {
            GapBuffer x = Due.typed(LINES);
            x.moveTo(5);
            x.setEager(true);
            for (int position = 0; position <= 8; position++) {
                same("of " + position, x.lineOf(position), lines[position]);
            }
        });
        test("`position`: 0 to the length of the text", () -> {
            for (int length : new int[] {0, 1, 256}) {
                same("0 of " + length, Due.filled(length).lineOf(0), 0);
                same("the length " + length, Due.filled(length).lineOf(length), 0);
            }
        });
        test("Returns the number of the line.", () -> {
            GapBuffer x = new GapBuffer();
            same("without text", x.lineOf(0), 0);
            x.fill(10, 100);
            x.fill(10, 100);
            x.fill(10, 56);
            for (int position : new int[] {0, 1, 128, 255, 256}) {
                same("of 256 line breaks", x.lineOf(position), position);
            }
        });
        test("Throws `IndexOutOfBoundsException` if there is no such position", () -> {
            refusesOutside(0, rich().length(), INDEX, Chapter::rich, (x, at) -> x.lineOf(at));
            refusesOutside(0, 0, INDEX, GapBuffer::new, (x, at) -> x.lineOf(at));
            refusesOutside(0, 256, INDEX, FULL, (x, at) -> x.lineOf(at));
        });
    }

    private void columnOf() {
        int[] columns = {0, 1, 2, 0, 0, 1, 2, 3, 0};
        test("Returns the column of a position.", () -> {
            GapBuffer x = Due.typed(LINES);
            x.moveTo(5);
            x.setEager(true);
            for (int position = 0; position <= 8; position++) {
                same("of " + position, x.columnOf(position), columns[position]);
            }
        });
        test("`position`: 0 to the length of the text", () -> {
            for (int length : new int[] {0, 1, 256}) {
                same("0 of " + length, Due.filled(length).columnOf(0), 0);
                same("the length " + length, Due.filled(length).columnOf(length), length);
            }
        });
        test("Returns the column.", () -> {
            same("without text", new GapBuffer().columnOf(0), 0);
            GapBuffer x = new GapBuffer();
            x.type(10);
            for (int left = 255; left > 0; left -= 100) {
                x.fill('a', Math.min(100, left));
            }
            same("before the line break", x.columnOf(0), 0);
            same("behind the line break", x.columnOf(1), 0);
            same("the greatest behind it", x.columnOf(256), 255);
        });
        test("Throws `IndexOutOfBoundsException` if there is no such position", () -> {
            refusesOutside(0, rich().length(), INDEX, Chapter::rich, (x, at) -> x.columnOf(at));
            refusesOutside(0, 0, INDEX, GapBuffer::new, (x, at) -> x.columnOf(at));
            refusesOutside(0, 256, INDEX, FULL, (x, at) -> x.columnOf(at));
        });
    }

    private void lineStart() {
        int[] starts = {0, 3, 4, 8};
        test("Returns the position at which a line begins.", () -> {
            GapBuffer x = Due.typed(LINES);
            x.moveTo(5);
            x.setEager(true);
            for (int line = 0; line < 4; line++) {
                same("line " + line, x.lineStart(line), starts[line]);
            }
        });
        test("`line`: its number", () -> {
            GapBuffer x = breaks256();
            for (int line : new int[] {0, 1, 255, 256}) {
                same("line " + line, x.lineStart(line), line);
            }
        });
        test("Returns the position.", () -> {
            same("without text", new GapBuffer().lineStart(0), 0);
            same("behind a line break alone", Due.typed("\n").lineStart(1), 1);
            same("256 before it", Due.filled(256).lineStart(0), 0);
            GapBuffer x = Due.filled(255);
            x.type(10);
            same("255 before its line break", x.lineStart(1), 256);
        });
        test("Throws `IndexOutOfBoundsException` if there is no such line", () -> {
            refusesOutside(0, 2, INDEX, Chapter::rich, (x, line) -> x.lineStart(line));
            refusesOutside(0, 0, INDEX, GapBuffer::new, (x, line) -> x.lineStart(line));
            refusesOutside(0, 0, INDEX, FULL, (x, line) -> x.lineStart(line));
            refusesOutside(0, 256, INDEX, TextPromises::breaks256, (x, line) -> x.lineStart(line));
            refuses("deleted", INDEX, () -> Due.made("+a;n;<1"), x -> x.lineStart(1));
        });
    }

    private void lineLength() {
        int[] lengths = {2, 0, 3, 0};
        test("Returns the length of a line.", () -> {
            GapBuffer x = Due.typed(LINES);
            x.moveTo(5);
            x.setEager(true);
            for (int line = 0; line < 4; line++) {
                same("line " + line, x.lineLength(line), lengths[line]);
            }
        });
        test("`line`: its number", () -> {
            GapBuffer x = breaks256();
            x.backspace(1);
            x.type('a');
            same("line 0", x.lineLength(0), 0);
            same("line 254", x.lineLength(254), 0);
            same("line 255", x.lineLength(255), 1);
        });
        test("Returns the number of bytes of the line, without line breaks.", () -> {
            same("without text", new GapBuffer().lineLength(0), 0);
            same("of 256", Due.filled(256).lineLength(0), 256);
            GapBuffer x = Due.filled(255);
            x.type(10);
            same("255 before a line break", x.lineLength(0), 255);
            same("none behind it", x.lineLength(1), 0);
            same("256 line breaks", breaks256().lineLength(256), 0);
        });
        test("Throws `IndexOutOfBoundsException` if there is no such line", () -> {
            refusesOutside(0, 2, INDEX, Chapter::rich, (x, line) -> x.lineLength(line));
            refusesOutside(0, 0, INDEX, GapBuffer::new, (x, line) -> x.lineLength(line));
            refusesOutside(0, 0, INDEX, FULL, (x, line) -> x.lineLength(line));
            refusesOutside(0, 256, INDEX, TextPromises::breaks256,
                (x, line) -> x.lineLength(line));
            refuses("deleted", INDEX, () -> Due.made("+a;n;<1"), x -> x.lineLength(1));
        });
    }

    private static GapBuffer breaks256() {
        GapBuffer x = new GapBuffer();
        x.fill(10, 100);
        x.fill(10, 100);
        x.fill(10, 56);
        return x;
    }
}
