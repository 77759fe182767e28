import java.math.BigInteger;

/** The sentences of promises 41 to 43. */
final class UndoPromises extends Chapter {
    /** The hash of a new object, reckoned apart from any Java program. */
    private static final long EMPTY = 2563066128482221533L;

    UndoPromises(Sentences sentences, Due due) {
        super(sentences, due);
    }

    @Override
    void all() {
        under("Promise 41");
        undo();
        under("Promise 42");
        test("Returns the number of saved states, 0 to 6.", this::savedStates);
        under("Promise 43");
        digest();
    }

    private void undo() {
        test("Restores the state that was saved last, and removes it from the saved states.",
            () -> {
                undoes("everything", Chapter::richWithRoom,
                    x -> Due.command(x, "+abcdefghijklmnopqrst;m0;m1;m2;m3;n;<9;m0;@0;-9"));
                GapBuffer x = Due.typed("abc");
                long three = x.digest();
                x.type('d');
                x.undo();
                same("the last one", x.digest(), three);
                x.undo();
                same("then the one before", Due.text(x), "ab");
                x.type('z');
                x.undo();
                same("a new one in its place", Due.text(x), "ab");
                x.undo();
                x.undo();
                same("the state of a new object", x.digest(), new GapBuffer().digest());
            });
        test("Returns the number of saved states that are left.", () -> {
            for (int calls = 1; calls <= 8; calls++) {
                GapBuffer x = new GapBuffer();
                for (int i = 0; i < calls; i++) {
                    x.moveBy(0);
                }
                for (int left = Math.min(6, calls) - 1; left >= 0; left--) {
                    same("after " + calls, x.undo(), left);
                }
            }
        });
        test("Throws `IllegalStateException` if no state is saved", () -> {
            refuses("a new object", STATE, GapBuffer::new, x -> x.undo());
            refuses("one saved and undone", STATE, () -> undone(1), x -> x.undo());
            refuses("six saved and undone", STATE, () -> undone(6), x -> x.undo());
            refuses("seven saved, six undone", STATE, () -> undone(7), x -> x.undo());
            refuses("after refused calls", STATE, () -> {
                GapBuffer x = new GapBuffer();
                outcome(x, y -> y.type(0));
                outcome(x, y -> y.run());
                return x;
            }, x -> x.undo());
            refuses("after calls that are not undoable", STATE, () -> {
                GapBuffer x = new GapBuffer();
                Due.enter(x, "n");
                x.find(0);
                x.costOf(0, 1);
                return x;
            }, x -> x.undo());
        });
    }

    /** A number of bytes typed, and all saved states of them undone. */
    private static GapBuffer undone(int typed) {
        GapBuffer x = new GapBuffer();
        for (int i = 0; i < typed; i++) {
            x.type('a');
        }
        for (int left = Math.min(6, typed); left > 0; left--) {
            x.undo();
        }
        return x;
    }

    private void savedStates() {
        GapBuffer x = new GapBuffer();
        same("none at first", x.savedStates(), 0);
        for (int i = 1; i <= 20; i++) {
            x.moveBy(0);
            same("after " + i, x.savedStates(), Math.min(6, i));
        }
        outcome(x, y -> y.type(0));
        same("after a refused call", x.savedStates(), 6);
        for (int left = 5; left >= 0; left--) {
            x.undo();
            same("left", x.savedStates(), left);
        }
        outcome(x, y -> y.undo());
        same("not less than 0", x.savedStates(), 0);
        x.moveBy(0);
        same("one again", x.savedStates(), 1);
    }

    private static GapBuffer some() {
        GapBuffer x = Due.made("+abcdefgh;n;+ij;@3;m1;@9;m3;@8;m0;@6");
        x.setEager(true);
        x.copy(1);
        x.erase(1);
        x.moveTo(9);
        return x;
    }

    /** By exact numbers, of which the hash is the lowest 64 bits. */
    private static long hash(long... values) {
        BigInteger hash = BigInteger.valueOf(8134);
        for (long value : values) {
            hash = hash.multiply(BigInteger.valueOf(31)).add(BigInteger.valueOf(value));
        }
        return hash.longValue();
    }

    private void digest() {
        test("Computes a hash of the state.", () -> {
            same("the same state, the same hash", rich().digest(), rich().digest());
            GapBuffer x = rich();
            long before = x.digest();
            Due.enter(x, "n");
            same("the command buffer is no part of it", x.digest(), before);
            x.moveTo(x.caret());
            same("the saved states are no part of it", x.digest(), before);
            same("changes nothing", Future.of(() -> after(Chapter::rich, y -> y.digest())),
                Future.of(Chapter::rich));
        });
        test("The hash starts at 8134.", () -> same("empty", new GapBuffer().digest(),
            hash(0, 0, 8, 0, 0, 0, 0, 0, 1, 0, 0, -1, -1, -1, -1, 0)));
        test("For each value v of the following list, in order, the hash becomes 31 * hash + v, in"
            + " long arithmetic with overflow.", this::overflow);
        test("The values are: what length(), caret(), capacity(), gapStart(), carried(), copied(),"
            + " growths(), shrinks() and lines() return; the column of the caret; 1 if the editor"
            + " is eager, otherwise 0; for each mark its position (NONE if it is not set); the"
            + " bytes of the text in their order; the number of bytes in the clipboard, and these"
            + " bytes in their order.", this::values);
        test("Returns the hash.", () -> {
            same("not shortened to an int", (int) new GapBuffer().digest()
                == new GapBuffer().digest() ? 1 : 0, 0);
            GapBuffer x = new GapBuffer();
            long before = x.digest();
            x.type('a');
            holds("another after an edit", x.digest() != before);
            x.undo();
            same("the first by undo", x.digest(), before);
        });
    }

    private void overflow() {
        same("empty", new GapBuffer().digest(), EMPTY);
        for (int length : new int[] {1, 2, 3, 50, 256}) {
            for (int code : new int[] {10, 32, 126}) {
                GapBuffer x = new GapBuffer();
                for (int left = length; left > 0; left -= 100) {
                    x.fill(code, Math.min(100, left));
                }
                same(length + " of " + code, x.digest(), hashOf(x, length, code));
            }
        }
    }

    private static long hashOf(GapBuffer x, int length, int code) {
        long[] values = new long[16 + length];
        long[] first = {length, length, x.capacity(), length, 0, x.copied(), x.growths(), 0,
            code == 10 ? length + 1 : 1, code == 10 ? 0 : length, 0, -1, -1, -1, -1};
        System.arraycopy(first, 0, values, 0, first.length);
        for (int i = 0; i < length; i++) {
            values[first.length + i] = code;
        }
        return hash(values);
    }

    private void values() {
        GapBuffer x = some();
        same("text", Due.text(x), "abcdefh\nij");
        same("some", x.digest(), hash(10, 9, 16, 9, 5 + 3, 8, 1, 0, 2, 1, 1, 7, 3, -1, 8,
            'a', 'b', 'c', 'd', 'e', 'f', 'h', 10, 'i', 'j', 3, 'd', 'e', 'f'));
        x.setEager(false);
        same("not eager", x.digest(), hash(10, 9, 16, 9, 5 + 3, 8, 1, 0, 2, 1, 0, 7, 3, -1, 8,
            'a', 'b', 'c', 'd', 'e', 'f', 'h', 10, 'i', 'j', 3, 'd', 'e', 'f'));
        x.moveTo(8);
        x.setMark(2, 1);
        same("caret and gap apart", x.digest(), hash(10, 8, 16, 9, 8, 8, 1, 0, 2, 0, 0, 7, 3, 8, 8,
            'a', 'b', 'c', 'd', 'e', 'f', 'h', 10, 'i', 'j', 3, 'd', 'e', 'f'));
        x.backspace(8);
        same("shrunk", x.digest(), hash(2, 0, 8, 0, 8 + 1, 8 + 2, 1, 1, 1, 0, 0, 0, 0, 0, 0,
            'i', 'j', 3, 'd', 'e', 'f'));
        x.copy(0);
        x.erase(2);
        same("no text, an empty clipboard", x.digest(),
            hash(0, 0, 8, 0, 9, 10, 1, 1, 1, 0, 0, 0, 0, 0, 0, 0));
        GapBuffer sixty = new GapBuffer();
        sixty.setMark(0, 0);
        sixty.fill('~', 60);
        sixty.cut(0);
        long[] values = new long[76];
        long[] first = {0, 0, 8, 0, 0, 0, 3, 3, 1, 0, 0, 0, -1, -1, -1, 60};
        System.arraycopy(first, 0, values, 0, 16);
        for (int i = 16; i < 76; i++) {
            values[i] = '~';
        }
        same("60 in the clipboard", sixty.digest(), hash(values));
    }
}
