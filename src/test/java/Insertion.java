/** The ways to insert one byte at the caret. */
enum Insertion {
    TYPE {
        @Override
        long on(GapBuffer x) {
            return x.type('q');
        }
    },
    FILL {
        @Override
        long on(GapBuffer x) {
            return x.fill('q', 1);
        }
    },
    PASTE {
        @Override
        long on(GapBuffer x) {
            return x.paste();
        }
    },
    LETTERS {
        @Override
        long on(GapBuffer x) {
            return Due.command(x, "+q");
        }
    },
    LINE_BREAK {
        @Override
        long on(GapBuffer x) {
            return Due.command(x, "n");
        }
    },
    PASTE_COMMAND {
        @Override
        long on(GapBuffer x) {
            return Due.command(x, "p");
        }
    };

    abstract long on(GapBuffer x);

    boolean isCommand() {
        return ordinal() >= LETTERS.ordinal();
    }

    /** A text of "a", the clipboard "q", and no set mark but 3. */
    static GapBuffer ready(int length) {
        GapBuffer x = new GapBuffer();
        x.setMark(3, 0);
        x.type('q');
        x.cut(3);
        for (int left = length; left > 0; left -= 100) {
            x.fill('a', Math.min(100, left));
        }
        return x;
    }
}
