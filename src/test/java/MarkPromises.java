/** The sentences of promises 12 to 18. */
final class MarkPromises extends Chapter {
    MarkPromises(Sentences sentences, Due due) {
        super(sentences, due);
    }

    @Override
    void all() {
        under("Promise 12");
        setMark();
        under("Promise 13");
        copy();
        under("Promise 14");
        cut();
        under("Promise 15");
        paste();
        under("Promise 16");
        mark();
        under("Promise 17");
        clip();
        under("Promise 18");
        find();
    }

    private void setMark() {
        test("Sets a mark at the caret.", () -> {
            for (int caret : new int[] {0, 1, 255, 256}) {
                GapBuffer x = Due.filled(256);
                x.moveTo(caret);
                x.setMark(2, 0);
                same("at " + caret, x.mark(2), caret);
                same("the caret stays", x.caret(), caret);
                same("the gap stays", x.gapStart(), 256);
                same("another", x.mark(1), NONE);
            }
            GapBuffer none = new GapBuffer();
            none.setMark(0, 1);
            same("without text", none.mark(0), 0);
        });
        test("Undoable.", () -> {
            undoes("setMark, not set before", Chapter::richWithRoom, x -> x.setMark(3, 1));
            undoes("setMark, set before", Chapter::richWithRoom, x -> x.setMark(0, 0));
            undoes("setMark as it is", () -> Due.made("+ab;m0"), x -> x.setMark(0, 1));
            undoes("the other side", () -> Due.made("+ab;m0"), x -> x.setMark(0, 0));
        });
        test("`mark`: 0 to 3", () -> {
            for (int mark = 0; mark <= 3; mark++) {
                GapBuffer x = Due.filled(9);
                x.setMark(mark, 0);
                for (int other = 0; other <= 3; other++) {
                    same("mark " + other, x.mark(other), other == mark ? 9 : NONE);
                }
            }
        });
        test("`side`: 0 left, 1 right", () -> {
            for (int side = 0; side <= 1; side++) {
                GapBuffer x = Due.filled(3);
                x.setMark(1, 1 - side);
                x.setMark(1, side);
                x.fill('b', 5);
                same("side " + side, x.mark(1), side == 0 ? 3 : 8);
            }
        });
        test("Returns the previous position of the mark; NONE if it was not set.", () -> {
            GapBuffer x = Due.filled(256);
            for (int mark = 0; mark <= 3; mark++) {
                same("not set", x.setMark(mark, 0), NONE);
                same("set", x.setMark(mark, 1), 256);
            }
            x.moveTo(0);
            same("at the end", x.setMark(0, 0), 256);
            same("at the beginning", x.setMark(0, 0), 0);
            x.undo();
            x.undo();
            same("at the end again", x.setMark(0, 0), 256);
            GapBuffer moved = Due.made("m0;+abc");
            same("where it has moved to", moved.setMark(0, 0), 3);
        });
        test("Throws `IndexOutOfBoundsException` if there is no such mark", () -> {
            refusesOutside(0, 3, INDEX, Chapter::rich, (x, mark) -> x.setMark(mark, 0));
            refusesOutside(0, 3, INDEX, GapBuffer::new, (x, mark) -> x.setMark(mark, 1));
        });
        test("Throws `IllegalArgumentException` if side is not 0 or 1", () -> {
            refusesOutside(0, 1, ARGUMENT, Chapter::rich, (x, side) -> x.setMark(0, side));
            refusesOutside(0, 1, ARGUMENT, GapBuffer::new, (x, side) -> x.setMark(3, side));
        });
    }

    /** A text of "a" with mark 0 at 10 and the caret behind it or before it by a number. */
    private static GapBuffer region(int bytes) {
        GapBuffer x = Due.filled(100);
        Due.markAt(x, 0, bytes < 0 ? 10 - bytes : 10, 0);
        x.moveTo(bytes < 0 ? 10 : 10 + bytes);
        return x;
    }

    private void copy() {
        test("Copies the region of a mark to the clipboard, in place of what it contained.", () -> {
            GapBuffer x = Due.made("+abcdef;m0;@0;m1;@4");
            x.copy(1);
            same("before the caret", Due.clipboard(x), "abcd");
            x.copy(0);
            same("shorter, behind the caret", Due.clipboard(x), "ef");
            same("nothing of what it had", x.clip(2), NONE);
            x.moveTo(1);
            x.copy(0);
            same("longer", Due.clipboard(x), "bcdef");
            same("the text stays", Due.text(x), "abcdef");
            same("the caret stays", x.caret(), 1);
            same("the gap stays", x.gapStart(), 6);
            x.setMark(2, 0);
            x.copy(2);
            same("no byte", Due.clipboard(x), "");
            x.erase(100);
            x.copy(1);
            same("the rest", Due.clipboard(x), "a");
            x.type('z');
            same("later edits leave it", Due.clipboard(x), "a");
        });
        test("Undoable.", () -> {
            undoes("copy", Chapter::richWithRoom, x -> x.copy(2));
            undoes("copy of no byte", () -> Due.made("+ab;m0;@0;x0;m1"), x -> x.copy(1));
            undoes("copy that changes nothing", () -> Due.made("m0"), x -> x.copy(0));
        });
        test("`mark`: 0 to 3", () -> {
            for (int mark = 0; mark <= 3; mark++) {
                GapBuffer x = Due.made("+abc;m0;m1;m2;m3;@0");
                Due.markAt(x, mark, 1, 0);
                same("mark " + mark, x.copy(mark), 1);
            }
        });
        test("Returns the number of bytes in the clipboard.", () -> {
            for (int bytes : new int[] {-60, -59, -1, 0, 1, 59, 60}) {
                same("region of " + bytes, region(bytes).copy(0), Math.abs(bytes));
            }
            same("without text", Due.made("m0").copy(0), 0);
        });
        test("Throws `IndexOutOfBoundsException` if there is no such mark", () -> {
            refusesOutside(0, 3, INDEX, Chapter::rich, (x, mark) -> x.copy(mark));
            refusesOutside(0, 3, INDEX, GapBuffer::new, (x, mark) -> x.copy(mark));
        });
        test("Throws `IllegalStateException` if the mark is not set, or its region has more than 60"
            + " bytes", () -> refusedRegions((x, mark) -> x.copy(mark)));
    }

    private void refusedRegions(NumberCall call) {
        for (int mark = 0; mark <= 3; mark++) {
            int number = mark;
            refuses("not set, no text", STATE, GapBuffer::new, x -> call.on(x, number));
        }
        refuses("not set, others are", STATE, () -> Due.made("+abc;m0;m1;m3;@1;x0"),
            x -> call.on(x, 2));
        for (int bytes : new int[] {-61, -62, 61, 62, 90}) {
            refuses("region of " + bytes, STATE, () -> region(bytes), x -> call.on(x, 0));
        }
        refuses("region of 256", STATE, () -> {
            GapBuffer x = Due.filled(256);
            x.setMark(0, 0);
            x.moveTo(0);
            return x;
        }, x -> call.on(x, 0));
    }

    private void cut() {
        test("Copies the region of a mark to the clipboard, as copy() does, and then deletes it:"
            + " the bytes before the caret if the mark is before the caret, otherwise the bytes"
            + " behind the caret.", this::cutRegions);
        test("Undoable.", () -> {
            undoes("cut", Chapter::richWithRoom, x -> x.cut(0));
            undoes("cut of no byte", () -> Due.made("+ab;m0;@0;x0;m1"), x -> x.cut(1));
            undoes("cut that changes nothing", () -> Due.made("m0"), x -> x.cut(0));
            undoes("cut that shrinks", () -> region(60), x -> x.cut(0));
        });
        test("`mark`: 0 to 3", () -> {
            for (int mark = 0; mark <= 3; mark++) {
                GapBuffer x = Due.made("+abc;m0;m1;m2;m3;@0");
                Due.markAt(x, mark, 1, 0);
                same("mark " + mark, x.cut(mark), 1);
                same("mark " + mark, Due.text(x), "bc");
            }
        });
        test("Returns the number of bytes in the clipboard.", () -> {
            for (int bytes : new int[] {-60, -59, -1, 0, 1, 59, 60}) {
                same("region of " + bytes, region(bytes).cut(0), Math.abs(bytes));
            }
            same("without text", Due.made("m0").cut(0), 0);
        });
        test("Throws `IndexOutOfBoundsException` if there is no such mark", () -> {
            refusesOutside(0, 3, INDEX, Chapter::rich, (x, mark) -> x.cut(mark));
            refusesOutside(0, 3, INDEX, GapBuffer::new, (x, mark) -> x.cut(mark));
        });
        test("Throws `IllegalStateException` if the mark is not set, or its region has more than 60"
            + " bytes", () -> refusedRegions((x, mark) -> x.cut(mark)));
    }

    private void cutRegions() {
        int[] carets = {0, 2, 3, 4, 6};
        String[] clipboards = {"abc", "c", "", "d", "def"};
        String[] texts = {"def", "abdef", "abcdef", "abcef", "abc"};
        int[] caretsAfter = {0, 2, 3, 3, 3};
        int[] carried = {6, 4, 0, 2, 0};
        for (int i = 0; i < carets.length; i++) {
            GapBuffer x = Due.typed("abcdef");
            Due.markAt(x, 1, 3, 1);
            x.moveTo(carets[i]);
            x.cut(1);
            same("clipboard at " + carets[i], Due.clipboard(x), clipboards[i]);
            same("text at " + carets[i], Due.text(x), texts[i]);
            same("caret at " + carets[i], x.caret(), caretsAfter[i]);
            same("mark at " + carets[i], x.mark(1), caretsAfter[i]);
            same("carried to the caret " + carets[i], x.carried(), carried[i]);
            same("gap at " + carets[i], x.gapStart(), i == 2 ? 6 : caretsAfter[i]);
        }
        GapBuffer x = Due.filled(60);
        x.setMark(0, 0);
        x.moveTo(0);
        x.cut(0);
        same("all 60", x.length(), 0);
        same("all 60 in the clipboard", x.clip(59), 'a');
        same("shrunk", x.capacity(), 8);
    }

    private void paste() {
        test("Inserts the bytes of the clipboard at the caret, as one edit.", () -> {
            for (int caret : new int[] {0, 1, 4}) {
                GapBuffer x = Due.made("+abcdef;m0;@4;x0");
                x.moveTo(caret);
                x.paste();
                same("at " + caret, Due.text(x), new StringBuilder("abcd").insert(caret, "ef")
                    .toString());
                same("caret at " + caret, x.caret(), caret + 2);
                same("clipboard stays", Due.clipboard(x), "ef");
            }
            GapBuffer x = new GapBuffer();
            x.setMark(0, 0);
            x.fill('a', 60);
            x.cut(0);
            x.fill('b', 8);
            x.moveTo(5);
            x.paste();
            same("60, copied as one edit", x.copied(), 4 * 8);
            same("60, carried as one edit", x.carried(), 3);
            same("60, all of them", x.byteAt(64), 'a');
            same("60, no more", x.byteAt(65), 'b');
        });
        test("Undoable.", () -> {
            undoes("paste", Chapter::richWithRoom, x -> x.paste());
            undoes("paste that makes 256", () -> {
                GapBuffer x = Due.made("+q;m3;@0;x3");
                x.fill('a', 100);
                x.fill('a', 100);
                x.fill('a', 55);
                return x;
            }, x -> x.paste());
        });
        test("Returns the length of the text after the call.", () -> {
            same("into none", Insertion.ready(0).paste(), 1);
            same("into 255", Insertion.ready(255).paste(), 256);
            GapBuffer x = Insertion.ready(7);
            x.moveTo(2);
            same("not the caret", x.paste(), 8);
        });
        test("Throws `IllegalStateException` if the clipboard is empty, or the text would have more"
            + " than 256 bytes", () -> {
                refuses("empty, no text", STATE, GapBuffer::new, x -> x.paste());
                refuses("empty", STATE, () -> Due.filled(9), x -> x.paste());
                refuses("empty again", STATE, () -> Due.made("+ab;m0;@0;x0;m0;x0"),
                    x -> x.paste());
                refuses("empty, and 256", STATE, () -> Due.filled(256), x -> x.paste());
                refuses("1 into 256", STATE, () -> Insertion.ready(256), x -> x.paste());
                same("1 into 255", outcome(Insertion.ready(255), x -> x.paste()), "256");
                refuses("60 into 197", STATE, () -> withSixty(197), x -> x.paste());
                same("60 into 196", outcome(withSixty(196), x -> x.paste()), "256");
            });
    }

    private static GapBuffer withSixty(int length) {
        GapBuffer x = new GapBuffer();
        x.setMark(0, 0);
        x.fill('a', 60);
        x.copy(0);
        x.fill('b', 100);
        x.fill('b', length - 160);
        return x;
    }

    private void mark() {
        test("Returns the position of a mark.", () -> {
            for (int caret : new int[] {0, 1, 255, 256}) {
                GapBuffer x = Due.filled(256);
                x.moveTo(caret);
                x.setMark(3, 0);
                x.moveTo(7);
                same("at " + caret, x.mark(3), caret);
            }
        });
        test("`mark`: 0 to 3", () -> {
            GapBuffer x = Due.made("+abc;m3;@0;m0;@1;m1;@2;m2");
            for (int mark = 0; mark <= 3; mark++) {
                same("mark " + mark, x.mark(mark), mark);
            }
        });
        test("Returns its position; NONE if it is not set.", () -> {
            GapBuffer x = new GapBuffer();
            for (int mark = 0; mark <= 3; mark++) {
                same("not set " + mark, x.mark(mark), NONE);
                x.setMark(mark, 0);
                same("set " + mark, x.mark(mark), 0);
            }
            x.undo();
            same("not set by undo", x.mark(3), NONE);
            same("set still", x.mark(2), 0);
        });
        test("Throws `IndexOutOfBoundsException` if there is no such mark", () -> {
            refusesOutside(0, 3, INDEX, Chapter::rich, (x, mark) -> x.mark(mark));
            refusesOutside(0, 3, INDEX, GapBuffer::new, (x, mark) -> x.mark(mark));
        });
    }

    private void clip() {
        test("Returns a byte of the clipboard.", () -> {
            GapBuffer x = Due.made("+abc;n;m0;@0;x0");
            same("first", x.clip(0), 'a');
            same("third", x.clip(2), 'c');
            same("line break", x.clip(3), 10);
        });
        test("`index`: its index", () -> {
            GapBuffer x = withSixty(196);
            for (int index : new int[] {0, 1, 58, 59}) {
                same("index " + index, x.clip(index), 'a');
            }
        });
        test("Returns the byte; NONE if the clipboard has no such byte.", () -> {
            GapBuffer none = new GapBuffer();
            GapBuffer one = Insertion.ready(9);
            GapBuffer sixty = withSixty(196);
            for (int index : new int[] {0, 1, 59, 60, 61, 256, Integer.MAX_VALUE}) {
                same("of none " + index, none.clip(index), NONE);
                same("of one " + index, one.clip(index), index == 0 ? 'q' : NONE);
                same("of 60 " + index, sixty.clip(index), index < 60 ? 'a' : NONE);
            }
            sixty.setMark(1, 0);
            sixty.moveBy(-2);
            sixty.copy(1);
            same("the second of two", sixty.clip(1), 'b');
            same("what it had is gone", sixty.clip(2), NONE);
            GapBuffer back = withSixty(196);
            back.setMark(1, 0);
            back.copy(1);
            same("what it had is gone", back.clip(0), NONE);
            back.undo();
            same("back by undo", back.clip(59), 'a');
        });
        test("Throws `IndexOutOfBoundsException` if index is negative", () -> {
            int[] indexes = {-1, -2, -60, Integer.MIN_VALUE + 1, Integer.MIN_VALUE};
            for (int index : indexes) {
                refuses("index " + index, INDEX, Chapter::rich, x -> x.clip(index));
                refuses("index " + index + " of none", INDEX, GapBuffer::new, x -> x.clip(index));
            }
        });
    }

    private void find() {
        test("Finds the bytes of the clipboard in the text.", () -> {
            GapBuffer x = Due.made("+abcab;m0;@3;x0");
            same("found", x.find(0), 0);
            x.moveTo(3);
            x.paste();
            same("found twice", x.find(1), 3);
            x.moveTo(4);
            x.setEager(true);
            same("found across the gap", x.find(1), 3);
            same("changes nothing", x.caret() * 10 + x.gapStart(), 44);
        });
        test("`from`: a position", () -> {
            GapBuffer x = Insertion.ready(0);
            x.fill('q', 100);
            x.fill('q', 100);
            x.fill('q', 56);
            for (int from : new int[] {0, 1, 254, 255}) {
                same("from " + from, x.find(from), from);
            }
            same("from the end", x.find(256), NONE);
        });
        test("Returns the least position, not less than from, at which the text has all bytes of"
            + " the clipboard, one after the other; NONE if there is none, or the clipboard is"
            + " empty.", this::foundPositions);
        test("Throws `IndexOutOfBoundsException` if there is no such position", () -> {
            refusesOutside(0, rich().length(), INDEX, Chapter::rich, (x, from) -> x.find(from));
            refusesOutside(0, 0, INDEX, GapBuffer::new, (x, from) -> x.find(from));
            refusesOutside(0, 256, INDEX, () -> Insertion.ready(256), (x, from) -> x.find(from));
        });
    }

    private void foundPositions() {
        GapBuffer x = Due.made("+aabaab;m0;@4;x0;+ab");
        same("the text", Due.text(x), "aabaab");
        int[] of = {1, 1, 4, 4, 4, NONE, NONE};
        for (int from = 0; from <= 6; from++) {
            same("ab from " + from, x.find(from), of[from]);
        }
        Due.command(x, "@6;m1;@3");
        x.copy(1);
        same("aab at the beginning", x.find(0), 0);
        same("aab at the end", x.find(1), 3);
        same("aab not beyond the end", x.find(4), NONE);
        x.moveTo(0);
        x.copy(1);
        same("the whole text", x.find(0), 0);
        same("the whole text, but not from 1", x.find(1), NONE);
        x.moveTo(6);
        x.backspace(1);
        same("longer than the text", x.find(0), NONE);
        x.type('c');
        same("all but the last byte", x.find(0), NONE);
        GapBuffer none = new GapBuffer();
        same("empty, no text", none.find(0), NONE);
        GapBuffer empty = Due.filled(9);
        same("empty", empty.find(0), NONE);
        same("empty, at the end", empty.find(9), NONE);
        GapBuffer emptied = Due.made("+ab;m0;@0;x0");
        same("no text to find it in", emptied.find(0), NONE);
        GapBuffer sixty = withSixty(196);
        same("60 at their place", sixty.find(0), 0);
        same("60 not behind it", sixty.find(1), NONE);
        sixty.paste();
        same("60 up to the end of 256", sixty.find(1), 196);
        same("60 up to the end of 256", sixty.find(196), 196);
        same("59 are not 60", sixty.find(197), NONE);
    }
}
