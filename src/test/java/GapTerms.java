/** The sentences of "Text, array, gap". */
final class GapTerms extends Chapter {
    private static final int[] CAPACITIES = {8, 16, 32, 64, 128, 256};

    GapTerms(Sentences sentences, Due due) {
        super(sentences, due);
    }

    @Override
    void all() {
        under("Terms");
        test("The text consists of 0 to 256 bytes.", this::lengths);
        test("A byte is 10 (a line break) or 32 to 126.", this::bytes);
        test("A position is a number from 0 to the length of the text; the byte at position p is"
            + " the one behind this position.", this::positions);
        test("The caret is a position, 0 at first.", this::caret);
        test("The text is stored in an array, whose capacity is 8, 16, 32, 64, 128 or 256 cells,"
            + " 8 at first.", this::capacities);
        test("The gap is a contiguous part of the array.", this::contiguous);
        test("The bytes before the gap are at the beginning of the array, and the other bytes are"
            + " at its end, so the length of the gap is the capacity minus the length of the"
            + " text.", this::beforeAndBehind);
        test("The gap start is the number of bytes before the gap, 0 at first.", this::gapStart);
        moving();
        growing();
        inserting();
        deleting();
        test("The gap is also moved to the caret whenever the caret is moved by a method or"
            + " command of moving while the editor is eager; at first it is not.", this::eager);
    }

    private void lengths() {
        same("none at first", new GapBuffer().length(), 0);
        GapBuffer emptied = Due.filled(100);
        emptied.backspace(100);
        same("none again", emptied.length(), 0);
        same("no byte of none", outcome(emptied, x -> x.byteAt(0)),
            "throws java.lang.IndexOutOfBoundsException");
        for (Insertion way : Insertion.values()) {
            GapBuffer x = Insertion.ready(255);
            way.on(x);
            same(way + " of the 256th", x.length(), 256);
            same(way + " of the 257th", outcome(x, way::on),
                way.isCommand() ? "1" : "throws java.lang.IllegalStateException");
            same(way + " of the 257th", x.length(), 256);
        }
        GapBuffer full = Due.filled(256);
        same("first of 256", full.byteAt(0), 'a');
        same("last of 256", full.byteAt(255), 'a');
        full.moveTo(0);
        full.erase(100);
        full.erase(100);
        same("all of 256", full.erase(100), 56);
        same("none of 256 left", full.length(), 0);
    }

    private void bytes() {
        for (int code = -2; code <= 300; code++) {
            GapBuffer x = new GapBuffer();
            boolean isByte = code == 10 || 32 <= code && code <= 126;
            int number = code;
            same("type " + code, outcome(x, y -> y.type(number)),
                isByte ? "1" : "throws java.lang.IllegalArgumentException");
            same("fill " + code, outcome(x, y -> y.fill(number, 2)),
                isByte ? "3" : "throws java.lang.IllegalArgumentException");
            same("length after " + code, x.length(), isByte ? 3 : 0);
            same("the byte itself", isByte ? x.byteAt(2) : code, code);
        }
    }

    private void positions() {
        for (int length : new int[] {0, 1, 8, 256}) {
            GapBuffer x = Due.filled(length);
            same("the first of " + length, outcome(x, y -> y.moveTo(0)), "0");
            same("the last of " + length, outcome(x, y -> y.moveTo(length)), "0");
            same("before the first", outcome(x, y -> y.moveTo(-1)),
                "throws java.lang.IndexOutOfBoundsException");
            same("behind the last of " + length, outcome(x, y -> y.moveTo(length + 1)),
                "throws java.lang.IndexOutOfBoundsException");
        }
        for (int position = 0; position < 4; position++) {
            GapBuffer x = Due.typed("abcd");
            int code = x.byteAt(position);
            same("byte at " + position, code, "abcd".charAt(position));
            x.moveTo(position);
            x.erase(1);
            same("the byte behind " + position + " is gone", Due.text(x).indexOf(code), -1);
        }
    }

    private void caret() {
        GapBuffer x = new GapBuffer();
        same("at first", x.caret(), 0);
        x.type('a');
        same("at the end", x.caret(), x.length());
        x.moveBy(-100);
        same("at the beginning", x.caret(), 0);
        x.moveBy(100);
        x.backspace(1);
        same("not behind the text", x.caret(), 0);
    }

    private void capacities() {
        same("at first", new GapBuffer().capacity(), 8);
        for (int length = 0; length <= 256; length++) {
            int least = 8;
            while (least < length) {
                least *= 2;
            }
            same("with " + length, Due.filled(length).capacity(), least);
        }
        int capacity = 256;
        for (int length = 255; length >= 0; length--) {
            GapBuffer x = Due.filled(256);
            for (int left = 256 - length; left > 0; left -= 100) {
                x.backspace(Math.min(100, left));
            }
            while (capacity > 8 && length <= capacity / 4) {
                capacity /= 2;
            }
            same("down to " + length, x.capacity(), capacity);
        }
    }

    private void contiguous() {
        for (int position = 0; position <= 5; position++) {
            GapBuffer x = Due.typed("abcde");
            x.setEager(true);
            x.moveTo(position);
            for (int index = 0; index < 8; index++) {
                boolean isGap = x.cell(index) == NONE;
                same("cell " + index, isGap ? 1 : 0,
                    index >= position && index < position + 3 ? 1 : 0);
            }
        }
    }

    private void beforeAndBehind() {
        GapBuffer x = Due.typed("abcde");
        x.setEager(true);
        same("all before", Due.cells(x), "abcde___");
        x.moveTo(3);
        same("some behind", Due.cells(x), "abc___de");
        x.moveTo(0);
        same("all behind", Due.cells(x), "___abcde");
        same("length", x.room(), 8 - 5);
        x.fill('x', 3);
        same("no gap", Due.cells(x), "xxxabcde");
        same("no length", x.room(), 0);
        same("only a gap", Due.cells(new GapBuffer()), "________");
        same("the length of the whole", new GapBuffer().room(), 8);
        GapBuffer full = Due.filled(256);
        same("no gap in 256", full.room(), 0);
        full.moveTo(1);
        full.backspace(1);
        same("the one cell in 256", full.cell(0), NONE);
        same("the one behind it", full.cell(1), 'a');
        same("the one length", full.room(), 1);
    }

    private void gapStart() {
        GapBuffer x = new GapBuffer();
        same("at first", x.gapStart(), 0);
        x.fill('a', 8);
        same("no gap", x.gapStart(), 8);
        same("256", Due.filled(256).gapStart(), 256);
        x.moveTo(3);
        x.type('b');
        int before = 0;
        while (before < x.capacity() && x.cell(before) != NONE) {
            before++;
        }
        same("as many bytes", x.gapStart(), before);
        same("as many bytes", before, 4);
    }

    private void moving() {
        test("To move the gap to a position means: the gap start becomes this position.", () -> {
            GapBuffer x = Due.filled(256);
            x.setEager(true);
            for (int position : new int[] {0, 256, 255, 1, 1}) {
                x.moveTo(position);
                same("to " + position, x.gapStart(), position);
            }
        });
        test("As many bytes are carried as the gap start changes by.", () -> {
            GapBuffer x = Due.filled(256);
            x.setEager(true);
            int[] positions = {256, 255, 0, 0, 1, 256};
            int[] carried = {0, 1, 255, 0, 1, 255};
            int sum = 0;
            for (int i = 0; i < positions.length; i++) {
                same("to " + positions[i], x.moveTo(positions[i]), carried[i]);
                sum += carried[i];
                same("so far", x.carried(), sum);
            }
            GapBuffer none = new GapBuffer();
            same("no text", none.setEager(true), 0);
            same("no text", none.carried(), 0);
        });
    }

    private void growing() {
        test("To grow means: the capacity is doubled, while the gap start does not change.",
            () -> {
                GapBuffer x = Due.typed("abcdefgh");
                x.moveTo(3);
                x.type('x');
                same("cells", Due.cells(x), "abcx_______defgh");
                same("capacity", x.capacity(), 16);
                same("gap start, behind the byte", x.gapStart(), 4);
                GapBuffer y = Due.typed("abcdefgh");
                y.moveTo(0);
                y.type('x');
                same("cells at the beginning", Due.cells(y), "x_______abcdefgh");
                GapBuffer z = Due.filled(128);
                z.moveTo(127);
                z.type('x');
                same("to 256", z.capacity(), 256);
                same("the last cell", z.cell(255), 'a');
                same("the gap before it", z.cell(254), NONE);
                same("the gap start", z.gapStart(), 128);
            });
        test("As many bytes are copied as the text has.", () -> {
            GapBuffer none = new GapBuffer();
            none.fill('a', 100);
            same("of no text", none.copied(), 0);
            same("of no text, four times", none.growths(), 4);
            GapBuffer one = Due.typed("a");
            one.fill('a', 100);
            same("of one, four times", one.copied(), 4);
            GapBuffer x = Due.filled(128);
            int before = x.copied();
            x.type('b');
            same("of 128", x.copied() - before, 128);
            before = x.copied();
            x.fill('b', 100);
            same("no growth", x.copied(), before);
        });
        test("To shrink means the same, but the capacity is halved.", () -> {
            GapBuffer x = Due.filled(9);
            x.moveTo(2);
            int before = x.copied();
            x.erase(5);
            same("cells", Due.cells(x), "aa____aa");
            same("capacity", x.capacity(), 8);
            same("gap start", x.gapStart(), 2);
            same("of the text that is left", x.copied() - before, 4);
            GapBuffer none = Due.filled(9);
            before = none.copied();
            none.backspace(9);
            same("of no text", none.copied(), before);
            same("of no text, once", none.shrinks(), 1);
            GapBuffer full = Due.filled(256);
            full.backspace(100);
            before = full.copied();
            full.backspace(92);
            same("to 128", full.capacity(), 128);
            same("of 64", full.copied() - before, 64);
        });
    }

    private void inserting() {
        test("To insert some bytes at the caret means: the gap is moved to the caret.", () -> {
            for (Insertion way : Insertion.values()) {
                for (int caret : new int[] {0, 5, 99, 100}) {
                    GapBuffer x = Insertion.ready(100);
                    x.moveTo(caret);
                    way.on(x);
                    same(way + " carries from " + caret, x.carried(), 100 - caret);
                    same(way + " leaves the gap there", x.gapStart(), caret + 1);
                    x.moveTo(x.length());
                    way.on(x);
                    same(way + " carries back", x.carried(), 2 * (100 - caret));
                }
            }
        });
        test("Then, as long as the gap is shorter than the number of bytes to be inserted, the"
            + " array grows.", this::growingForInsertion);
        test("Then the bytes are inserted at the caret; the gap start and the caret are behind"
            + " them.", () -> {
                for (int caret : new int[] {0, 2, 4}) {
                    GapBuffer x = Due.typed("abcd");
                    x.moveTo(caret);
                    x.fill('x', 3);
                    same("text", Due.text(x), new StringBuilder("abcd").insert(caret, "xxx")
                        .toString());
                    same("caret", x.caret(), caret + 3);
                    same("gap start", x.gapStart(), caret + 3);
                }
                for (Insertion way : Insertion.values()) {
                    GapBuffer x = Insertion.ready(255);
                    x.moveTo(7);
                    way.on(x);
                    int code = way == Insertion.LINE_BREAK ? 10 : 'q';
                    same(way + " into 255", x.byteAt(7), code);
                    same(way + " caret", x.caret(), 8);
                    same(way + " gap start", x.gapStart(), 8);
                }
            });
    }

    private void growingForInsertion() {
        for (int capacity : CAPACITIES) {
            GapBuffer x = Due.filled(capacity - 3);
            x.fill('b', 3);
            same("just enough of " + capacity, x.capacity(), capacity);
            if (capacity < 256) {
                GapBuffer y = Due.filled(capacity - 3);
                int growths = y.growths();
                y.fill('b', 4);
                same("one too few of " + capacity, y.capacity(), 2 * capacity);
                same("grows once", y.growths(), growths + 1);
            }
            for (Insertion way : Insertion.values()) {
                GapBuffer z = Insertion.ready(capacity - 1);
                way.on(z);
                same(way + " of the last of " + capacity, z.capacity(), capacity);
                outcome(z, way::on);
                same(way + " of one more", z.capacity(), Math.min(256, 2 * capacity));
            }
        }
        GapBuffer x = Due.filled(8);
        x.fill('b', 8);
        same("8 and 8", x.capacity(), 16);
        GapBuffer y = Due.filled(8);
        y.fill('b', 25);
        same("8 and 25, three times", y.capacity(), 64);
        same("8 and 25", y.growths(), 3);
        same("8 and 25", y.copied(), 3 * 8);
        GapBuffer z = Due.filled(29);
        z.fill('b', 100);
        same("29 and 100", z.capacity(), 256);
        same("29 and 100", z.growths(), 5);
    }

    private void deleting() {
        test("To delete some bytes behind (or before) the caret means: the gap is moved to the"
            + " caret.", () -> {
                for (Deletion way : Deletion.values()) {
                    GapBuffer x = Due.filled(20);
                    x.moveTo(12);
                    way.on(x, 3, true);
                    same(way + " before carries to the caret", x.carried(), 8);
                    GapBuffer y = Due.filled(20);
                    y.moveTo(12);
                    way.on(y, 3, false);
                    same(way + " behind carries to the caret", y.carried(), 8);
                    y.moveTo(17);
                    way.on(y, 1, true);
                    same(way + " carries back", y.carried(), 8 + 5);
                    way.on(y, 1, true);
                    same(way + " at the gap carries none", y.carried(), 8 + 5);
                }
            });
        test("Then the bytes are deleted; the gap start and the caret are where the bytes were.",
            () -> {
                for (Deletion way : Deletion.values()) {
                    GapBuffer x = Due.typed("abcdefgh");
                    x.moveTo(5);
                    way.on(x, 2, true);
                    same(way + " before", Due.text(x), "abcfgh");
                    same(way + " caret", x.caret(), 3);
                    same(way + " gap start", x.gapStart(), 3);
                    way.on(x, 1, false);
                    same(way + " behind", Due.text(x), "abcgh");
                    same(way + " caret", x.caret(), 3);
                    same(way + " gap start", x.gapStart(), 3);
                    same(way + " cells", Due.cells(x), "abc___gh");
                    way.on(x, 3, true);
                    same(way + " to the beginning", Due.text(x), "gh");
                    same(way + " caret", x.caret() + x.gapStart(), 0);
                    way.on(x, 2, false);
                    same(way + " to the end", Due.text(x), "");
                }
            });
        test("Then, as long as the capacity is more than 8 and the length of the text is at most"
            + " a quarter of it, the array shrinks.", this::shrinkingForDeletion);
        test("If no byte is to be deleted, the gap is not moved, either.", () -> {
            for (Deletion way : Deletion.values()) {
                for (boolean isBefore : new boolean[] {true, false}) {
                    for (int length : new int[] {0, 9, 256}) {
                        GapBuffer x = Due.filled(length);
                        x.moveTo(length / 2);
                        if (length > 0) {
                            way.on(x, 1, false);
                        }
                        int gap = x.gapStart();
                        int carried = x.carried();
                        way.ofNone(x, isBefore);
                        same(way + " of none of " + length, x.gapStart(), gap);
                        same(way + " of none of " + length, x.carried(), carried);
                        same(way + " of none of " + length, x.shrinks(), 0);
                        same(way + " of none of " + length, x.length(), Math.max(0, length - 1));
                    }
                }
            }
        });
    }

    private void shrinkingForDeletion() {
        for (Deletion way : Deletion.values()) {
            for (int capacity = 16; capacity <= 256; capacity *= 2) {
                GapBuffer x = Due.filled(capacity / 2 + 1);
                for (int left = capacity / 4; left > 0; left -= 30) {
                    way.on(x, Math.min(30, left), true);
                }
                same(way + " to more than a quarter of " + capacity, x.length(), capacity / 4 + 1);
                same(way + " to more than a quarter of " + capacity, x.capacity(), capacity);
                way.on(x, 1, true);
                same(way + " to a quarter of " + capacity, x.capacity(), capacity / 2);
                same(way + " to a quarter of " + capacity, x.shrinks(), 1);
                GapBuffer y = Due.filled(capacity / 2 + 1);
                y.moveTo(0);
                for (int left = capacity / 4 + 1; left > 0; left -= 30) {
                    way.on(y, Math.min(30, left), false);
                }
                same(way + " behind to a quarter of " + capacity, y.capacity(), capacity / 2);
            }
            for (int left = 2; left >= 0; left--) {
                GapBuffer x = Due.filled(3);
                way.on(x, 3 - left, true);
                same(way + ": 8 is not halved with " + left, x.capacity(), 8);
                same(way + ": 8 is not halved with " + left, x.shrinks(), 0);
            }
        }
        GapBuffer x = Due.filled(100);
        x.backspace(83);
        same("17 of 128", x.capacity(), 64);
        GapBuffer y = Due.filled(100);
        y.backspace(84);
        same("16 of 128, twice", y.capacity(), 32);
        same("16 of 128, twice", y.shrinks(), 2);
        GapBuffer z = Due.filled(100);
        z.backspace(100);
        same("none of 128, down to 8", z.capacity(), 8);
        same("none of 128, four times", z.shrinks(), 4);
        GapBuffer five = Due.filled(165);
        five.backspace(100);
        same("65 of 256", five.capacity(), 256);
        five.backspace(65);
        same("none of 256, down to 8", five.capacity(), 8);
        same("none of 256, five times", five.shrinks(), 5);
    }

    private void eager() {
        Call[] moves = {x -> x.moveTo(9), x -> x.moveBy(-3), x -> x.up(), x -> x.down(),
            x -> x.moveInLine(false), x -> x.moveInLine(true), x -> Due.command(x, "@2")};
        int[] carets = {9, 6, 2, 16, 7, 13, 2};
        for (int i = 0; i < moves.length; i++) {
            GapBuffer x = Due.made("+abcdef;n;+ghijkl;n;+mnopqr;@9");
            moves[i].on(x);
            same("at first not, move " + i, x.caret() * 100 + x.gapStart(), carets[i] * 100 + 20);
            same("at first not, move " + i, x.carried(), 0);
            GapBuffer y = Due.made("+abcdef;n;+ghijkl;n;+mnopqr;@9");
            y.setEager(true);
            y.moveTo(8);
            y.moveTo(9);
            same("carried before", y.carried(), 11 + 1 + 1);
            moves[i].on(y);
            same("eager, caret of move " + i, y.caret(), carets[i]);
            same("eager, gap of move " + i, y.gapStart(), y.caret());
            same("eager, carried by move " + i, y.carried(), 13 + Math.abs(y.caret() - 9));
            y.setEager(false);
            y.moveTo(20);
            same("no more after move " + i, y.gapStart(), carets[i]);
        }
        GapBuffer x = Due.made("+abc;n;+def;@1");
        same("made eager", x.setEager(true), 6);
        x.up();
        same("up that stays carries none", x.carried(), 6);
        same("to the last line", x.moveTo(5), 4);
        x.down();
        same("down that stays carries none", x.carried(), 10);
    }
}
