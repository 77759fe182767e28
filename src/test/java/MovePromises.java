/** The sentences of promises 6 to 11. */
final class MovePromises extends Chapter {
    MovePromises(Sentences sentences, Due due) {
        super(sentences, due);
    }

    @Override
    void all() {
        under("Promise 6");
        moveTo();
        under("Promise 7");
        moveBy();
        under("Promise 8");
        up();
        under("Promise 9");
        down();
        under("Promise 10");
        moveInLine();
        under("Promise 11");
        setEager();
    }

    private void moveTo() {
        test("Moves the caret to a position.", () -> {
            GapBuffer x = Due.filled(256);
            for (int position : new int[] {0, 256, 255, 1, 1}) {
                x.moveTo(position);
                same("to " + position, x.caret(), position);
            }
        });
        test("Undoable.", () -> {
            undoes("moveTo", Chapter::richWithRoom, x -> x.moveTo(3));
            undoes("moveTo where it is", Chapter::richWithRoom, x -> x.moveTo(x.caret()));
            undoes("moveTo in no text", GapBuffer::new, x -> x.moveTo(0));
        });
        test("`position`: 0 to the length of the text", () -> {
            for (int length : new int[] {0, 1, 255, 256}) {
                GapBuffer x = Due.filled(length);
                x.moveTo(0);
                same("the least of " + length, x.caret(), 0);
                x.moveTo(length);
                same("the greatest of " + length, x.caret(), length);
            }
        });
        test("Returns the number of bytes that are carried by this.", () -> {
            GapBuffer x = Due.filled(256);
            same("not eager", x.moveTo(0), 0);
            x.setEager(true);
            same("all, eager", x.moveTo(256), 256);
            same("one", x.moveTo(255), 1);
            same("none", x.moveTo(255), 0);
            same("all before", x.moveTo(0), 255);
            x.setEager(false);
            same("not eager any more", x.moveTo(256), 0);
            GapBuffer none = new GapBuffer();
            none.setEager(true);
            same("no text", none.moveTo(0), 0);
        });
        test("Throws `IndexOutOfBoundsException` if there is no such position", () -> {
            refusesOutside(0, rich().length(), INDEX, Chapter::rich, (x, to) -> x.moveTo(to));
            refusesOutside(0, 0, INDEX, GapBuffer::new, (x, to) -> x.moveTo(to));
            refusesOutside(0, 256, INDEX, () -> Due.filled(256), (x, to) -> x.moveTo(to));
        });
    }

    private static GapBuffer inTheMiddle() {
        GapBuffer x = Due.filled(256);
        x.moveTo(128);
        return x;
    }

    private void moveBy() {
        test("Moves the caret by a number of bytes, but at most to the beginning or the end of the"
            + " text.", () -> {
                int[] counts = {-4, -3, -2, 0, 1, 2, 3, 100, -100};
                int[] carets = {0, 0, 1, 3, 4, 5, 5, 5, 0};
                for (int i = 0; i < counts.length; i++) {
                    GapBuffer x = Due.typed("ab\nde");
                    x.moveTo(3);
                    x.moveBy(counts[i]);
                    same("by " + counts[i], x.caret(), carets[i]);
                }
            });
        test("Undoable.", () -> {
            undoes("moveBy", Chapter::richWithRoom, x -> x.moveBy(-3));
            undoes("moveBy 0", Chapter::richWithRoom, x -> x.moveBy(0));
            undoes("moveBy beyond the end", () -> Due.filled(3), x -> x.moveBy(100));
            undoes("moveBy in no text", GapBuffer::new, x -> x.moveBy(-1));
        });
        test("`count`: -100 to 100", () -> {
            for (int count : new int[] {-100, -99, -1, 0, 1, 99, 100}) {
                same("by " + count, inTheMiddle().moveBy(count), 128 + count);
            }
        });
        test("Returns the caret after the call.", () -> {
            GapBuffer x = Due.typed("abc");
            same("at the end", x.moveBy(1), 3);
            x.setEager(true);
            same("eager", x.moveBy(-1), 2);
            same("beyond the beginning", x.moveBy(-3), 0);
            same("without text", new GapBuffer().moveBy(100), 0);
            same("of 256", Due.filled(256).moveBy(1), 256);
        });
        test("Throws `IllegalArgumentException` if count is out of range", () -> {
            refusesOutside(-100, 100, ARGUMENT, Chapter::rich, (x, count) -> x.moveBy(count));
            refusesOutside(-100, 100, ARGUMENT, GapBuffer::new, (x, count) -> x.moveBy(count));
            refusesOutside(-100, 100, ARGUMENT, MovePromises::inTheMiddle,
                (x, count) -> x.moveBy(count));
        });
    }

    private void up() {
        test("Moves the caret up; it stays if it is in the line 0.", () -> {
            String text = "ab\n\ncde";
            int[] carets = {0, 1, 2, 0, 3, 3, 3, 3};
            for (int caret = 0; caret <= 7; caret++) {
                GapBuffer x = Due.typed(text);
                x.moveTo(caret);
                x.up();
                same("from " + caret, x.caret(), carets[caret]);
                same("the gap stays", x.gapStart(), 7);
            }
            GapBuffer none = new GapBuffer();
            none.up();
            same("without text", none.caret(), 0);
        });
        test("Undoable.", () -> {
            undoes("up", Chapter::richWithRoom, x -> x.up());
            undoes("up in line 0", () -> Due.made("+abc;n;+d;@2"), x -> x.up());
            undoes("up without text", GapBuffer::new, x -> x.up());
        });
        test("Returns the caret after the call.", () -> {
            GapBuffer x = Due.typed("abc\nd\nefg");
            same("to a shorter line", x.up(), 5);
            same("to the goal column", x.up(), 3);
            same("in line 0", x.up(), 3);
            same("without text", new GapBuffer().up(), 0);
            GapBuffer eager = Due.typed("abc\ndefg");
            eager.moveTo(6);
            eager.setEager(true);
            same("eager", eager.up(), 2);
            same("eager, the gap", eager.gapStart(), 2);
        });
    }

    private void down() {
        test("Moves the caret down; it stays if it is in the last line.", () -> {
            String text = "abc\n\nde";
            int[] carets = {4, 4, 4, 4, 5, 5, 6, 7};
            for (int caret = 0; caret <= 7; caret++) {
                GapBuffer x = Due.typed(text);
                x.moveTo(caret);
                x.down();
                same("from " + caret, x.caret(), carets[caret]);
                same("the gap stays", x.gapStart(), 7);
            }
            GapBuffer none = new GapBuffer();
            none.down();
            same("without text", none.caret(), 0);
            GapBuffer emptyLast = Due.typed("ab\n");
            emptyLast.moveTo(2);
            emptyLast.down();
            same("to the empty last line", emptyLast.caret(), 3);
            emptyLast.down();
            same("in the empty last line", emptyLast.caret(), 3);
        });
        test("Undoable.", () -> {
            undoes("down", Chapter::richWithRoom, x -> x.down());
            undoes("down in the last line", () -> Due.made("+abc;n;+d;@4"), x -> x.down());
            undoes("down without text", GapBuffer::new, x -> x.down());
        });
        test("Returns the caret after the call.", () -> {
            GapBuffer x = Due.typed("abc\nd\nefg");
            x.moveTo(3);
            same("to a shorter line", x.down(), 5);
            same("to the goal column", x.down(), 9);
            same("in the last line", x.down(), 9);
            same("without text", new GapBuffer().down(), 0);
            GapBuffer eager = Due.typed("abc\ndefg");
            eager.moveTo(2);
            eager.setEager(true);
            same("eager", eager.down(), 6);
            same("eager, the gap", eager.gapStart(), 6);
        });
    }

    private void moveInLine() {
        String text = "ab\n\ncde\n";
        int[] begins = {0, 0, 0, 3, 4, 4, 4, 4, 8};
        int[] ends = {2, 2, 2, 3, 7, 7, 7, 7, 8};
        test("Moves the caret to the beginning of its line, or to the end of it.", () -> {
            for (int caret = 0; caret <= 8; caret++) {
                GapBuffer x = Due.typed(text);
                x.moveTo(caret);
                x.moveInLine(false);
                same("beginning from " + caret, x.caret(), begins[caret]);
                x.moveInLine(true);
                same("end from " + caret, x.caret(), ends[caret]);
                same("the gap stays", x.gapStart(), 8);
            }
            GapBuffer full = Due.filled(256);
            full.moveInLine(false);
            same("beginning of 256", full.caret(), 0);
            full.moveInLine(true);
            same("end of 256", full.caret(), 256);
        });
        test("Undoable.", () -> {
            undoes("moveInLine", Chapter::richWithRoom, x -> x.moveInLine(false));
            undoes("moveInLine where it is", Chapter::richWithRoom, x -> x.moveInLine(true));
            undoes("moveInLine without text", GapBuffer::new, x -> x.moveInLine(false));
        });
        test("`isEnd`: true for the end", () -> {
            GapBuffer x = Due.typed("abc");
            x.moveTo(1);
            same("true", x.moveInLine(true), 3);
            same("false", x.moveInLine(false), 0);
        });
        test("Returns the caret after the call.", () -> {
            for (int caret = 0; caret <= 8; caret++) {
                GapBuffer x = Due.typed(text);
                x.moveTo(caret);
                same("beginning from " + caret, x.moveInLine(false), begins[caret]);
                same("end from " + caret, x.moveInLine(true), ends[caret]);
            }
            same("without text", new GapBuffer().moveInLine(true), 0);
            same("without text", new GapBuffer().moveInLine(false), 0);
            GapBuffer eager = Due.typed("abc\ndefg");
            eager.setEager(true);
            same("eager", eager.moveInLine(false), 4);
            same("eager, the gap", eager.gapStart(), 4);
        });
    }

    private void setEager() {
        test("Makes the editor eager or not.", () -> {
            GapBuffer x = Due.typed("abc");
            x.setEager(true);
            x.moveTo(1);
            same("eager", x.gapStart(), 1);
            x.setEager(true);
            x.moveTo(2);
            same("eager still", x.gapStart(), 2);
            x.setEager(false);
            x.moveTo(0);
            same("not eager", x.gapStart(), 2);
            x.setEager(false);
            x.moveTo(3);
            same("not eager still", x.gapStart(), 2);
        });
        test("If it is made eager, the gap is moved to the caret.", () -> {
            for (int caret = 0; caret <= 3; caret++) {
                GapBuffer x = Due.typed("abc");
                x.moveTo(caret);
                x.setEager(false);
                same("not eager at " + caret, x.gapStart(), 3);
                x.setEager(true);
                same("eager at " + caret, x.gapStart(), caret);
                same("the caret stays", x.caret(), caret);
            }
        });
        test("Undoable.", () -> {
            undoes("setEager", () -> Due.made("+abc;@1"), x -> x.setEager(true));
            undoes("setEager as it is", Chapter::richWithRoom, x -> x.setEager(true));
            undoes("not eager", Chapter::richWithRoom, x -> x.setEager(false));
            undoes("not eager as it is", GapBuffer::new, x -> x.setEager(false));
        });
        test("`isEager`: whether it is eager after the call", () -> {
            GapBuffer x = new GapBuffer();
            long not = x.digest();
            x.setEager(true);
            long eager = x.digest();
            holds("true", eager != not);
            x.setEager(true);
            same("true again", x.digest(), eager);
            x.setEager(false);
            same("false", x.digest(), not);
            x.setEager(false);
            same("false again", x.digest(), not);
        });
        test("Returns the number of bytes that are carried by this.", () -> {
            GapBuffer x = Due.filled(256);
            x.moveTo(0);
            same("false", x.setEager(false), 0);
            same("all", x.setEager(true), 256);
            same("true again", x.setEager(true), 0);
            x.setEager(false);
            x.moveTo(1);
            same("one, the other way", x.setEager(true), 1);
            x.setEager(false);
            x.moveTo(9);
            same("false, away from the gap", x.setEager(false), 0);
            same("carried", x.carried(), 257);
            same("without text", new GapBuffer().setEager(true), 0);
        });
    }
}
