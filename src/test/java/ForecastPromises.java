/** The sentences of promises 34 to 36. */
final class ForecastPromises extends Chapter {
    private static final Maker FULL = () -> Due.filled(256);

    ForecastPromises(Sentences sentences, Due due) {
        super(sentences, due);
    }

    @Override
    void all() {
        under("Promise 34");
        costOf();
        under("Promise 35");
        costOfTwo();
        under("Promise 36");
        room();
    }

    private void costOf() {
        test("Predicts the cost of inserting bytes at a position: how many bytes would be carried"
            + " and copied, together, if the caret were at this position (and the gap where it is)"
            + " and this number of bytes were inserted.", this::costs);
        test("`position`: 0 to the length of the text", () -> {
            for (int length : new int[] {0, 1, 255}) {
                GapBuffer x = Due.filled(length);
                x.setEager(true);
                same("0 of " + length, x.costOf(0, 1), length);
                same("the length " + length, x.costOf(length, 1), 0);
            }
        });
        test("`count`: 1 to 100", () -> {
            GapBuffer x = Due.filled(8);
            same("1", x.costOf(8, 1), 8);
            same("99", x.costOf(8, 99), 4 * 8);
            same("100", x.costOf(8, 100), 4 * 8);
        });
        test("Returns the number of bytes; NONE if the text would have more than 256 bytes.",
            () -> {
                for (int count : new int[] {1, 2, 99, 100}) {
                    GapBuffer x = Due.filled(256 - count);
                    same("256 by " + count, x.costOf(256 - count, count), 0);
                    GapBuffer y = Due.filled(257 - count);
                    same("257 by " + count, y.costOf(0, count), NONE);
                }
                same("100 into 128", Due.filled(128).costOf(128, 100), 128);
                same("1 into 256", Due.filled(256).costOf(256, 1), NONE);
                same("100 into 256", Due.filled(256).costOf(0, 100), NONE);
            });
        test("Throws `IndexOutOfBoundsException` if there is no such position", () -> {
            refusesOutside(0, rich().length(), INDEX, Chapter::rich, (x, at) -> x.costOf(at, 1));
            refusesOutside(0, 0, INDEX, GapBuffer::new, (x, at) -> x.costOf(at, 100));
            refusesOutside(0, 256, INDEX, FULL, (x, at) -> x.costOf(at, 1));
        });
        test("Throws `IllegalArgumentException` if count is out of range", () -> {
            refusesOutside(1, 100, ARGUMENT, Chapter::rich, (x, count) -> x.costOf(0, count));
            refusesOutside(1, 100, ARGUMENT, GapBuffer::new, (x, count) -> x.costOf(0, count));
            refusesOutside(1, 100, ARGUMENT, FULL, (x, count) -> x.costOf(256, count));
        });
    }

    private void costs() {
        GapBuffer x = Due.typed("abcdef");
        x.moveTo(2);
        int[] counts = {1, 2, 3, 10, 11, 26, 27, 58, 59, 100};
        int[] growths = {0, 0, 1, 1, 2, 2, 3, 3, 4, 4};
        for (int i = 0; i < counts.length; i++) {
            for (int position = 0; position <= 6; position++) {
                same(counts[i] + " at " + position, x.costOf(position, counts[i]),
                    6 - position + 6 * growths[i]);
            }
        }
        same("no text, no growth", new GapBuffer().costOf(0, 8), 0);
        same("no text, growths", new GapBuffer().costOf(0, 100), 0);
        GapBuffer middle = Due.typed("abcdefgh");
        middle.moveTo(3);
        middle.setEager(true);
        middle.setEager(false);
        middle.moveTo(8);
        same("at the gap, which is not at the caret", middle.costOf(3, 1), 8);
        same("behind the gap", middle.costOf(8, 1), 5 + 8);
        same("before the gap", middle.costOf(0, 1), 3 + 8);
        onlyLooks(z -> z.costOf(5, 100));
    }

    /** A call that is answered and changes nothing. */
    private void onlyLooks(Call call) {
        holds("answered", !outcome(rich(), call).startsWith("throws"));
        same("changes nothing", Future.of(() -> after(Chapter::rich, call)),
            Future.of(Chapter::rich));
    }

    private void costOfTwo() {
        test("Predicts the cost of inserting a byte at each of two positions, first at the one and"
            + " then at the other.", () -> {
                for (int one = 0; one <= 9; one++) {
                    for (int other = 0; other <= 9; other++) {
                        same("of " + one + " and " + other, filledTo(9, 6).costOfTwo(one, other),
                            asItTurnsOut(filledTo(9, 6), one, other));
                        same("growing, of " + one + " and " + other,
                            filledTo(15, 6).costOfTwo(one, other),
                            asItTurnsOut(filledTo(15, 6), one, other));
                    }
                }
                onlyLooks(x -> x.costOfTwo(7, 3));
                same("no text", new GapBuffer().costOfTwo(0, 0), 0);
                same("growing at the first", Due.filled(8).costOfTwo(8, 8), 8);
                same("growing at the second", Due.filled(7).costOfTwo(7, 7), 8);
                same("growing at neither", Due.filled(6).costOfTwo(6, 6), 0);
                same("growing to 256 at the second", Due.filled(127).costOfTwo(127, 127), 128);
            });
        test("(The second position is that of the present text.", () -> {
            GapBuffer x = Due.filled(6);
            same("before the first byte", x.costOfTwo(4, 1), 2 + 4);
            same("behind the first byte", x.costOfTwo(1, 4), 5 + 3);
            same("at the end", x.costOfTwo(0, 6), 6 + 6);
            same("the greatest", Due.filled(254).costOfTwo(0, 254), 254 + 254);
        });
        test("If the other position is not less than the one, the second byte is inserted at other"
            + " + 1, because the first byte is before it then.)", () -> {
                GapBuffer x = Due.filled(6);
                same("just less", x.costOfTwo(3, 2), 3 + 2);
                same("the same", x.costOfTwo(3, 3), 3);
                same("just greater", x.costOfTwo(3, 4), 3 + 1);
                same("both at the beginning", x.costOfTwo(0, 0), 6);
                same("both at the end", x.costOfTwo(6, 6), 0);
            });
        test("`one`: 0 to the length of the text", () -> {
            for (int length : new int[] {0, 1, 6, 254}) {
                same("0 of " + length, Due.filled(length).costOfTwo(0, 0), length);
                same("the length " + length, Due.filled(length).costOfTwo(length, length), 0);
            }
        });
        test("`other`: 0 to the length of the text", () -> {
            for (int length : new int[] {1, 6, 254}) {
                same("0 of " + length, Due.filled(length).costOfTwo(length, 0), length + 1);
                same("the length " + length, Due.filled(length).costOfTwo(0, length), 2 * length);
            }
        });
        test("Returns the number of bytes that would be carried and copied, together; NONE if the"
            + " text would have more than 256 bytes.", () -> {
                same("254 and two", Due.filled(254).costOfTwo(254, 254), 0);
                same("255 and two", Due.filled(255).costOfTwo(255, 255), NONE);
                same("256 and two", Due.filled(256).costOfTwo(0, 256), NONE);
                same("together", Due.filled(128).costOfTwo(100, 128), 28 + 128 + 28);
            });
        test("Throws `IndexOutOfBoundsException` if there is no such position", () -> {
            int last = rich().length();
            refusesOutside(0, last, INDEX, Chapter::rich, (x, at) -> x.costOfTwo(at, 0));
            refusesOutside(0, last, INDEX, Chapter::rich, (x, at) -> x.costOfTwo(last, at));
            refusesOutside(0, last, INDEX, Chapter::rich, (x, at) -> x.costOfTwo(at, at));
            refusesOutside(0, 0, INDEX, GapBuffer::new, (x, at) -> x.costOfTwo(at, 0));
            refusesOutside(0, 0, INDEX, GapBuffer::new, (x, at) -> x.costOfTwo(0, at));
            refusesOutside(0, 256, INDEX, FULL, (x, at) -> x.costOfTwo(at, 0));
            refusesOutside(0, 256, INDEX, FULL, (x, at) -> x.costOfTwo(256, at));
        });
    }

    /** A text with the gap at a position. */
    private static GapBuffer filledTo(int length, int gap) {
        GapBuffer x = Due.filled(length);
        x.moveTo(gap);
        x.setEager(true);
        x.setEager(false);
        return x;
    }

    private static int asItTurnsOut(GapBuffer x, int one, int other) {
        int before = x.carried() + x.copied();
        x.moveTo(one);
        x.type('x');
        x.moveTo(other < one ? other : other + 1);
        x.type('y');
        return x.carried() + x.copied() - before;
    }

    private void room() {
        test("Finds out how many bytes can be inserted, one after the other, until the array"
            + " grows.", () -> {
                for (int length : new int[] {0, 7, 8, 9, 16, 17, 128, 129}) {
                    GapBuffer x = Due.filled(length);
                    int growths = x.growths();
                    int room = x.room();
                    for (int i = 0; i < room; i++) {
                        x.type('b');
                    }
                    same("not yet, from " + length, x.growths(), growths);
                    same("none left, from " + length, x.room(), 0);
                    if (x.length() < 256) {
                        x.type('b');
                        same("now, from " + length, x.growths(), growths + 1);
                    }
                }
            });
        test("Returns the number of bytes, which is the length of the gap.", () -> {
            int[] lengths = {0, 1, 7, 8, 9, 16, 17, 255, 256};
            int[] rooms = {8, 7, 1, 0, 7, 0, 15, 1, 0};
            for (int i = 0; i < lengths.length; i++) {
                same("with " + lengths[i], Due.filled(lengths[i]).room(), rooms[i]);
            }
            onlyLooks(x -> x.room());
        });
    }
}
