/** Promises 34 to 36: costOf, costOfTwo, room. */
final class ForecastTest {
    private static final Class<IllegalArgumentException> ARGUMENT = IllegalArgumentException.class;
    private static final Class<IndexOutOfBoundsException> INDEX = IndexOutOfBoundsException.class;

    private static final Due due = new Due();

    public static void main(String[] args) {
        promise34();
        promise35();
        promise36();
        asItTurnsOut();
        due.close();
    }

    private static void promise34() {
        GapBuffer x = Due.typed("abcdef");
        x.moveTo(2);
        String before = Due.everything(x);
        due.same("34 at the gap", x.costOf(6, 1), 0);
        due.same("34 at the caret", x.costOf(2, 1), 4);
        due.same("34 at the beginning", x.costOf(0, 2), 6);
        due.same("34 grows", x.costOf(6, 3), 6);
        due.same("34 grows and carries", x.costOf(1, 3), 5 + 6);
        due.same("34 grows four times", x.costOf(3, 100), 3 + 4 * 6);
        due.same("34 grows three times", x.costOf(6, 58), 3 * 6);
        due.same("34 grows four times", x.costOf(6, 59), 4 * 6);
        due.same("34 changes nothing", Due.everything(x), before);
        int[] positions = {-1, 7, Integer.MIN_VALUE, Integer.MAX_VALUE};
        for (int position : positions) {
            due.refuses(x, "34 position " + position, INDEX, () -> x.costOf(position, 1));
            due.refuses(x, "34 position first", INDEX, () -> x.costOf(position, 0));
        }
        int[] counts = {0, -1, 101, Integer.MIN_VALUE, Integer.MAX_VALUE};
        for (int count : counts) {
            due.refuses(x, "34 count " + count, ARGUMENT, () -> x.costOf(0, count));
        }

        GapBuffer y = Due.filled(200);
        due.same("34 just full", y.costOf(100, 56), 100);
        due.same("34 too many", y.costOf(100, 57), GapBuffer.NONE);
        due.refuses(y, "34 wrong though too many", ARGUMENT, () -> y.costOf(0, 101));
        GapBuffer z = Due.filled(256);
        due.same("34 full", z.costOf(256, 1), GapBuffer.NONE);
        due.refuses(z, "34 wrong though full", INDEX, () -> z.costOf(257, 1));
    }

    private static void promise35() {
        GapBuffer x = Due.typed("abcdef");
        String before = Due.everything(x);
        due.same("35 both at the gap", x.costOfTwo(6, 6), 0);
        due.same("35 both at the same", x.costOfTwo(2, 2), 4);
        due.same("35 the other behind", x.costOfTwo(2, 5), 4 + 3);
        due.same("35 the other before", x.costOfTwo(5, 2), 1 + 4);
        due.same("35 both ends", x.costOfTwo(0, 6), 6 + 6);
        due.same("35 both ends", x.costOfTwo(6, 0), 7);
        due.same("35 changes nothing", Due.everything(x), before);
        int[] positions = {-1, 7, Integer.MIN_VALUE, Integer.MAX_VALUE};
        for (int position : positions) {
            due.refuses(x, "35 one " + position, INDEX, () -> x.costOfTwo(position, 0));
            due.refuses(x, "35 other " + position, INDEX, () -> x.costOfTwo(0, position));
        }
        x.type('g');
        due.same("35 grows at the second", x.costOfTwo(7, 7), 8);
        x.type('h');
        due.same("35 grows at the first", x.costOfTwo(8, 8), 8);
        due.same("35 grows and carries", x.costOfTwo(8, 3), 8 + 6);

        due.same("35 just full", Due.filled(254).costOfTwo(0, 0), 254);
        GapBuffer y = Due.filled(255);
        due.same("35 one too many", y.costOfTwo(0, 0), GapBuffer.NONE);
        due.refuses(y, "35 wrong though too many", INDEX, () -> y.costOfTwo(0, 256));
    }

    private static void promise36() {
        GapBuffer x = new GapBuffer();
        due.same("36 empty", x.room(), 8);
        x.fill('a', 5);
        due.same("36 three", x.room(), 3);
        x.fill('a', 3);
        due.same("36 none", x.room(), 0);
        x.type('a');
        due.same("36 grown", x.room(), 7);
        x.backspace(2);
        due.same("36 more", x.room(), 9);
        due.same("36 full", Due.filled(256).room(), 0);
    }

    /** What is predicted for each position is what the edit then costs. */
    private static void asItTurnsOut() {
        for (int length = 0; length <= 40; length += 4) {
            for (int position = 0; position <= length; position++) {
                GapBuffer x = Due.filled(length);
                x.moveTo(position);
                int predicted = x.costOf(position, 9);
                int before = x.carried() + x.copied();
                x.fill('b', 9);
                due.same("34 as it turns out", predicted, x.carried() + x.copied() - before);
                int other = length - position;
                GapBuffer y = Due.filled(length);
                predicted = y.costOfTwo(position, other);
                y.moveTo(position);
                y.type('c');
                y.moveTo(other >= position ? other + 1 : other);
                y.type('d');
                due.same("35 as it turns out", predicted,
                    y.carried() + y.copied() - Due.filled(length).copied());
            }
        }
    }
}
