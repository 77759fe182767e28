/** The ways to delete bytes behind or before the caret; those that cut use mark 3. */
enum Deletion {
    METHOD {
        @Override
        long on(GapBuffer x, int count, boolean isBefore) {
            return isBefore ? x.backspace(count) : x.erase(count);
        }
    },
    COMMAND {
        @Override
        long on(GapBuffer x, int count, boolean isBefore) {
            return Due.command(x, (isBefore ? "<" : "-") + count);
        }
    },
    CUT {
        @Override
        long on(GapBuffer x, int count, boolean isBefore) {
            mark(x, count, isBefore);
            return x.cut(3);
        }
    },
    CUT_COMMAND {
        @Override
        long on(GapBuffer x, int count, boolean isBefore) {
            mark(x, count, isBefore);
            return Due.command(x, "x3");
        }
    };

    abstract long on(GapBuffer x, int count, boolean isBefore);

    /** A deletion for which there is no byte: at an end of the text, or with an empty region. */
    void ofNone(GapBuffer x, boolean isBefore) {
        x.moveTo(isBefore ? 0 : x.length());
        on(x, this == METHOD || this == COMMAND ? 1 : 0, isBefore);
    }

    private static void mark(GapBuffer x, int count, boolean isBefore) {
        Due.markAt(x, 3, isBefore ? x.caret() - count : x.caret() + count, 0);
    }
}
