/** The sentences of promises 1 to 5. */
final class EditPromises extends Chapter {
    private static final Maker FULL = () -> Due.filled(256);

    EditPromises(Sentences sentences, Due due) {
        super(sentences, due);
    }

    @Override
    void all() {
        under("Promise 1");
        test("Creates an empty text.", this::empty);
        under("Promise 2");
        type();
        under("Promise 3");
        fill();
        under("Promise 4");
        erase();
        under("Promise 5");
        backspace();
    }

    private void empty() {
        GapBuffer x = new GapBuffer();
        same("length", x.length(), 0);
        same("caret", x.caret(), 0);
        same("lines", x.lines(), 1);
        same("no byte", outcome(x, y -> y.byteAt(0)), "throws java.lang.IndexOutOfBoundsException");
        same("nothing to undo", x.savedStates(), 0);
        GapBuffer other = new GapBuffer();
        other.type('a');
        other.append('n');
        same("another object's text is another", x.length(), 0);
        same("another object's commands are others", x.clearCommands(), 0);
        same("another object's saved states are others", x.savedStates(), 0);
        same("made after it", new GapBuffer().length(), 0);
    }

    private void type() {
        test("Inserts a byte at the caret.", () -> {
            for (int caret : new int[] {0, 1, 2}) {
                GapBuffer x = Due.typed("ab");
                x.moveTo(caret);
                x.type('x');
                same("at " + caret, Due.text(x), new StringBuilder("ab").insert(caret, 'x')
                    .toString());
                same("at " + caret, x.caret(), caret + 1);
            }
        });
        test("Undoable.", () -> {
            undoes("type", Chapter::richWithRoom, x -> x.type('y'));
            undoes("type into no text", GapBuffer::new, x -> x.type(10));
            undoes("the 256th", () -> Due.filled(255), x -> x.type('a'));
        });
        test("`code`: 10, or 32 to 126", () -> {
            for (int code : new int[] {10, 32, 33, 125, 126}) {
                GapBuffer x = new GapBuffer();
                same("code " + code, x.type(code), 1);
                same("code " + code, x.byteAt(0), code);
            }
        });
        test("Returns the length of the text after the call.", () -> {
            same("into none", new GapBuffer().type('a'), 1);
            same("into 255", Due.filled(255).type('a'), 256);
            GapBuffer x = Due.typed("abc");
            x.moveTo(0);
            same("not the caret", x.type('a'), 4);
        });
        test("Throws `IllegalArgumentException` if code is another number", () -> {
            refusesOutside(10, 10, ARGUMENT, Chapter::rich, (x, code) -> x.type(code));
            refuses("31", ARGUMENT, Chapter::rich, x -> x.type(31));
            refuses("127", ARGUMENT, Chapter::rich, x -> x.type(127));
            refuses("0", ARGUMENT, GapBuffer::new, x -> x.type(0));
            refuses("13", ARGUMENT, GapBuffer::new, x -> x.type(13));
            refuses("97 and 256", ARGUMENT, GapBuffer::new, x -> x.type('a' + 256));
        });
        test("Throws `IllegalStateException` if the text has 256 bytes", () -> {
            refuses("a letter", STATE, FULL, x -> x.type('a'));
            refuses("a line break", STATE, FULL, x -> x.type(10));
            refuses("at the beginning", STATE, () -> {
                GapBuffer x = Due.filled(256);
                x.moveTo(0);
                return x;
            }, x -> x.type('a'));
            same("not at 255", Due.filled(255).type('a'), 256);
        });
    }

    private void fill() {
        test("Inserts a byte several times at the caret, as one edit.", () -> {
            GapBuffer x = Due.typed("abcdefgh");
            x.moveTo(6);
            x.fill('x', 10);
            same("text", Due.text(x), "abcdefxxxxxxxxxxgh");
            same("caret", x.caret(), 16);
            same("copied as one edit", x.copied(), 2 * 8);
            same("carried as one edit", x.carried(), 2);
        });
        test("Undoable.", () -> {
            undoes("fill of 100", Chapter::richWithRoom, x -> x.fill('y', 100));
            undoes("fill of 1", Chapter::richWithRoom, x -> x.fill(10, 1));
            GapBuffer x = new GapBuffer();
            x.fill('a', 100);
            same("one state for 100 bytes", x.savedStates(), 1);
        });
        test("`code`: 10, or 32 to 126", () -> {
            for (int code : new int[] {10, 32, 33, 125, 126}) {
                GapBuffer x = new GapBuffer();
                same("code " + code, x.fill(code, 2), 2);
                same("code " + code, x.byteAt(1), code);
            }
        });
        test("`count`: 1 to 100", () -> {
            for (int count : new int[] {1, 2, 99, 100}) {
                GapBuffer x = new GapBuffer();
                x.fill('a', count);
                same("count " + count, x.length(), count);
            }
        });
        test("Returns the length of the text after the call.", () -> {
            same("1 into none", new GapBuffer().fill('a', 1), 1);
            same("100 into none", new GapBuffer().fill('a', 100), 100);
            same("100 into 156", Due.filled(156).fill('a', 100), 256);
        });
        test("Throws `IllegalArgumentException` if code or count is another number", () -> {
            refusesOutside(10, 10, ARGUMENT, Chapter::rich, (x, code) -> x.fill(code, 1));
            refuses("code 31", ARGUMENT, Chapter::rich, x -> x.fill(31, 1));
            refuses("code 127", ARGUMENT, Chapter::rich, x -> x.fill(127, 100));
            refusesOutside(1, 100, ARGUMENT, Chapter::rich, (x, count) -> x.fill('a', count));
            refusesOutside(1, 100, ARGUMENT, GapBuffer::new, (x, count) -> x.fill(10, count));
            refuses("both", ARGUMENT, GapBuffer::new, x -> x.fill(0, 0));
        });
        test("Throws `IllegalStateException` if the text would have more than 256 bytes", () -> {
            refuses("100 into 157", STATE, () -> Due.filled(157), x -> x.fill('a', 100));
            refuses("2 into 255", STATE, () -> Due.filled(255), x -> x.fill('a', 2));
            refuses("1 into 256", STATE, FULL, x -> x.fill('a', 1));
            same("1 into 255", Due.filled(255).fill('a', 1), 256);
            same("99 into 157", Due.filled(157).fill('a', 99), 256);
        });
    }

    private static GapBuffer twoFills() {
        GapBuffer x = Due.filled(100);
        x.fill('b', 100);
        x.moveTo(100);
        return x;
    }

    private void erase() {
        test("Deletes bytes behind the caret, or all of them if there are fewer.", () -> {
            int[] there = {0, 1, 2, 3, 4};
            String[] texts = {"abcd", "abc", "ab", "a", "d"};
            for (int i = 0; i < there.length; i++) {
                GapBuffer x = Due.typed("abcd");
                x.moveTo(4 - there[i]);
                x.erase(3);
                same("3 of " + there[i], Due.text(x), texts[i]);
                same("3 of " + there[i], x.caret(), 4 - there[i]);
            }
            GapBuffer none = new GapBuffer();
            none.erase(100);
            same("of no text", none.length(), 0);
        });
        test("Undoable.", () -> {
            undoes("erase", Chapter::richWithRoom, x -> x.erase(3));
            undoes("erase of all behind", Chapter::richWithRoom, x -> x.erase(100));
            undoes("erase of none", () -> Due.made("+abc;n;+d"), x -> x.erase(1));
            undoes("erase of no text", GapBuffer::new, x -> x.erase(1));
        });
        test("`count`: 1 to 100", () -> {
            for (int count : new int[] {1, 2, 99, 100}) {
                GapBuffer x = twoFills();
                x.erase(count);
                same("count " + count, x.length(), 200 - count);
                same("count " + count, x.byteAt(99), 'a');
            }
        });
        test("Returns the number of bytes that are deleted.", () -> {
            same("1 of 100", twoFills().erase(1), 1);
            same("100 of 100", twoFills().erase(100), 100);
            same("99 of 99", outcome(twoFills(), x -> x.moveBy(1) * 0 + x.erase(99)), "99");
            same("100 of 99", outcome(twoFills(), x -> x.moveBy(1) * 0 + x.erase(100)), "99");
            same("at the end", Due.filled(256).erase(100), 0);
            same("of no text", new GapBuffer().erase(1), 0);
        });
        test("Throws `IllegalArgumentException` if count is out of range", () -> {
            refusesOutside(1, 100, ARGUMENT, Chapter::rich, (x, count) -> x.erase(count));
            refusesOutside(1, 100, ARGUMENT, GapBuffer::new, (x, count) -> x.erase(count));
        });
    }

    private void backspace() {
        test("Deletes bytes before the caret, or all of them if there are fewer.", () -> {
            String[] texts = {"abcd", "bcd", "cd", "d", "a"};
            for (int there = 0; there <= 4; there++) {
                GapBuffer x = Due.typed("abcd");
                x.moveTo(there);
                x.backspace(3);
                same("3 of " + there, Due.text(x), texts[there]);
                same("3 of " + there, x.caret(), Math.max(0, there - 3));
            }
            GapBuffer none = new GapBuffer();
            none.backspace(100);
            same("of no text", none.length(), 0);
        });
        test("Undoable.", () -> {
            undoes("backspace", Chapter::richWithRoom, x -> x.backspace(3));
            undoes("backspace of all before", Chapter::richWithRoom, x -> x.backspace(100));
            undoes("backspace of none", () -> Due.made("+abc;n;+d;@0"), x -> x.backspace(1));
            undoes("backspace of no text", GapBuffer::new, x -> x.backspace(1));
        });
        test("`count`: 1 to 100", () -> {
            for (int count : new int[] {1, 2, 99, 100}) {
                GapBuffer x = twoFills();
                x.backspace(count);
                same("count " + count, x.length(), 200 - count);
                same("count " + count, x.byteAt(100 - count), 'b');
            }
        });
        test("Returns the number of bytes that are deleted.", () -> {
            same("1 of 100", twoFills().backspace(1), 1);
            same("100 of 100", twoFills().backspace(100), 100);
            same("99 of 99", outcome(twoFills(), x -> x.moveBy(-1) * 0 + x.backspace(99)), "99");
            same("100 of 99", outcome(twoFills(), x -> x.moveBy(-1) * 0 + x.backspace(100)), "99");
            same("at the beginning", outcome(twoFills(), x -> x.moveTo(0) + x.backspace(9)), "0");
            same("of no text", new GapBuffer().backspace(1), 0);
        });
        test("Throws `IllegalArgumentException` if count is out of range", () -> {
            refusesOutside(1, 100, ARGUMENT, Chapter::rich, (x, count) -> x.backspace(count));
            refusesOutside(1, 100, ARGUMENT, GapBuffer::new, (x, count) -> x.backspace(count));
        });
    }
}
