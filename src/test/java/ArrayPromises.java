/** The sentences of promises 27 to 33. */
final class ArrayPromises extends Chapter {
    ArrayPromises(Sentences sentences, Due due) {
        super(sentences, due);
    }

    @Override
    void all() {
        under("Promise 27");
        test("Returns the capacity of the array.", this::capacity);
        under("Promise 28");
        test("Returns the gap start.", this::gapStart);
        under("Promise 29");
        cell();
        under("Promise 30");
        test("Returns the number of bytes that were carried so far.", this::carried);
        under("Promise 31");
        test("Returns the number of bytes that were copied so far.", this::copied);
        under("Promise 32");
        test("Returns how often the array grew so far.", this::growths);
        under("Promise 33");
        test("Returns how often the array shrank so far.", this::shrinks);
    }

    private void capacity() {
        int[] lengths = {0, 8, 9, 16, 17, 32, 33, 64, 65, 128, 129, 256};
        int[] capacities = {8, 8, 16, 16, 32, 32, 64, 64, 128, 128, 256, 256};
        for (int i = 0; i < lengths.length; i++) {
            same("with " + lengths[i], Due.filled(lengths[i]).capacity(), capacities[i]);
        }
        GapBuffer x = Due.filled(9);
        x.undo();
        same("by undo", x.capacity(), 8);
        GapBuffer full = Due.filled(256);
        outcome(full, y -> y.type('a'));
        same("not beyond 256", full.capacity(), 256);
    }

    private void gapStart() {
        GapBuffer x = new GapBuffer();
        same("at first", x.gapStart(), 0);
        x.fill('a', 9);
        same("behind the bytes", x.gapStart(), 9);
        x.moveTo(3);
        same("not the caret", x.gapStart(), 9);
        x.erase(1);
        same("at the deletion", x.gapStart(), 3);
        x.moveTo(8);
        x.backspace(2);
        same("before the deleted bytes", x.gapStart(), 6);
        x.undo();
        same("by undo", x.gapStart(), 3);
        same("the greatest", Due.filled(256).gapStart(), 256);
    }

    private void cell() {
        test("Returns what is in a cell of the array.", () -> {
            GapBuffer x = Due.typed("ab\n ~");
            same("bytes before the gap", Due.cells(x), "ab\n ~___");
            x.moveTo(2);
            same("the caret moves no byte", Due.cells(x), "ab\n ~___");
            x.setEager(true);
            same("the gap moves bytes", Due.cells(x), "ab___\n ~");
        });
        test("`index`: 0 to the capacity minus 1", () -> {
            for (int length : new int[] {0, 8, 16, 256}) {
                GapBuffer x = Due.filled(length);
                int last = Math.max(8, length) - 1;
                same("the first of " + length, x.cell(0), length > 0 ? 'a' : NONE);
                same("the last of " + length, x.cell(last), length > 0 ? 'a' : NONE);
            }
        });
        test("Returns the byte; NONE if the cell belongs to the gap.", () -> {
            GapBuffer x = Due.typed("abcde");
            x.moveTo(2);
            x.setEager(true);
            int[] cells = {'a', 'b', NONE, NONE, NONE, 'c', 'd', 'e'};
            for (int index = 0; index < 8; index++) {
                same("cell " + index, x.cell(index), cells[index]);
            }
            x.erase(1);
            same("a deleted byte behind", x.cell(5), NONE);
            same("the next", x.cell(6), 'd');
            x.backspace(1);
            same("a deleted byte before", x.cell(1), NONE);
            same("the one before", x.cell(0), 'a');
            GapBuffer full = Due.filled(256);
            full.moveTo(255);
            full.erase(1);
            same("the only cell of the gap", full.cell(255), NONE);
            same("the cell before it", full.cell(254), 'a');
        });
        test("Throws `IndexOutOfBoundsException` if there is no such cell", () -> {
            refusesOutside(0, rich().capacity() - 1, INDEX, Chapter::rich, (x, at) -> x.cell(at));
            refusesOutside(0, 7, INDEX, GapBuffer::new, (x, at) -> x.cell(at));
            refusesOutside(0, 7, INDEX, () -> Due.filled(8), (x, at) -> x.cell(at));
            refusesOutside(0, 15, INDEX, () -> Due.filled(9), (x, at) -> x.cell(at));
            refusesOutside(0, 255, INDEX, () -> Due.filled(256), (x, at) -> x.cell(at));
            refuses("shrunk", INDEX, () -> Due.made("+abcdefghi;<9"), x -> x.cell(8));
        });
    }

    private void carried() {
        GapBuffer x = Due.filled(256);
        same("none by typing on", x.carried(), 0);
        x.moveTo(0);
        same("none by the caret", x.carried(), 0);
        x.erase(1);
        same("all", x.carried(), 256);
        x.moveTo(255);
        x.backspace(1);
        same("all the others back", x.carried(), 256 + 255);
        x.setEager(true);
        same("none at the caret", x.carried(), 511);
        x.moveTo(253);
        same("one by a move", x.carried(), 512);
        x.undo();
        same("by undo", x.carried(), 511);
        GapBuffer none = new GapBuffer();
        none.setEager(true);
        none.type('a');
        none.backspace(1);
        same("none without a way", none.carried(), 0);
    }

    private void copied() {
        GapBuffer x = new GapBuffer();
        int[] copied = {0, 8, 8 + 16, 8 + 16 + 32, 8 + 16 + 32 + 64, 8 + 16 + 32 + 64 + 128};
        for (int i = 0; i < copied.length; i++) {
            int capacity = 8 << i;
            while (x.length() < capacity - 1) {
                x.fill('a', Math.min(100, capacity - 1 - x.length()));
            }
            same("up to the last cell of " + capacity, x.copied(), copied[i]);
            x.type('a');
            same("up to " + capacity, x.copied(), copied[i]);
        }
        x.backspace(100);
        x.backspace(91);
        same("none by deleting to 65 of 256", x.copied(), 248);
        x.backspace(1);
        same("64 by shrinking", x.copied(), 248 + 64);
        x.undo();
        same("by undo", x.copied(), 248);
        GapBuffer none = Due.filled(100);
        none.backspace(100);
        same("none of no text", none.copied(), 0);
    }

    private void growths() {
        int[] lengths = {0, 8, 9, 16, 17, 32, 33, 64, 65, 100};
        int[] growths = {0, 0, 1, 1, 2, 2, 3, 3, 4, 4};
        for (int i = 0; i < lengths.length; i++) {
            same("by an insertion of " + lengths[i], Due.filled(lengths[i]).growths(), growths[i]);
        }
        same("up to 256", Due.filled(256).growths(), 5);
        same("a text of 128", Due.filled(128).growths(), 4);
        GapBuffer x = Due.filled(9);
        x.backspace(9);
        same("shrinking counts not", x.growths(), 1);
        x.fill('a', 9);
        same("again", x.growths(), 2);
        x.undo();
        same("by undo", x.growths(), 1);
    }

    private void shrinks() {
        GapBuffer x = Due.filled(256);
        same("growing counts not", x.shrinks(), 0);
        x.backspace(100);
        x.backspace(91);
        same("65 of 256", x.shrinks(), 0);
        x.backspace(1);
        same("64 of 256", x.shrinks(), 1);
        x.backspace(31);
        same("33 of 128", x.shrinks(), 1);
        x.backspace(33);
        same("none of 128", x.shrinks(), 5);
        x.backspace(1);
        same("8 is the least", x.shrinks(), 5);
        x.undo();
        x.undo();
        same("by undo", x.shrinks(), 1);
    }
}
