/** The sentences under "Command text". */
final class CommandTerms extends Chapter {
    private static final String TWENTY = "abcdefghijklmnopqrst";
    private static final String REFUSED = "throws java.lang.IllegalArgumentException";
    /** Signs that commands are made of, and those just beside them. */
    private static final String SIGNS = "+n-<@mxp;01234569/:az`{A!";

    CommandTerms(Sentences sentences, Due due) {
        super(sentences, due);
    }

    @Override
    void all() {
        under("Command text");
        test("There is a command buffer, which contains at most 60 characters and is empty at"
            + " first.", this::buffer);
        test("A command text is one or more commands with \";\" between them:", this::separators);
        test("\"+\" and 1 to 20 letters from \"a\" to \"z\": these bytes are inserted at the caret,"
            + " as one edit;", this::letters);
        test("\"n\": a line break is inserted;", this::lineBreak);
        test("\"-\" and a number from 1 to 99: as many bytes are deleted behind the caret, or all"
            + " if there are fewer;", () -> deletion('-'));
        test("\"<\" and a number from 1 to 99: the same before the caret;", () -> deletion('<'));
        test("\"@\" and a number from 0 to 256: the caret is moved to this position;", this::move);
        test("\"m\" and a mark: the mark is set at the caret, with the side right;", this::mark);
        test("\"x\" and a mark: like cut();", this::cut);
        test("\"p\": like paste().", this::paste);
        test("A mark is a digit from 0 to 3.", this::marks);
        test("Numbers have no leading zeros.", this::leadingZeros);
        test("A character of the command buffer is an error if no command text, however long,"
            + " begins with the characters before it and this character.", this::errors);
        test("A command fails for one of these reasons: 1 (the text would have more than 256"
            + " bytes), 2 (the mark is not set), 3 (the region has more than 60 bytes), 4 (the"
            + " clipboard is empty), 5 (the position is greater than the length of the text).",
            () -> {
                reason1();
                reasons2To5();
            });
    }

    /** The index of the first error of a text that stands alone in the buffer. */
    private void first(String commands, int index) {
        GapBuffer x = new GapBuffer();
        Due.enter(x, commands);
        same("first error of " + commands, x.firstError(), index);
    }

    /** A whole command text; and no error in it, nor in any text that breaks off before its end. */
    private void whole(String commands) {
        for (int end = 0; end <= commands.length(); end++) {
            first(commands.substring(0, end), end);
        }
        GapBuffer x = new GapBuffer();
        holds(commands + " is run", !outcome(x, y -> Due.command(y, commands)).equals(REFUSED));
    }

    /** A text without an error that is not a whole command text: it breaks off. */
    private void brokenOff(String commands) {
        first(commands, commands.length());
        notRun(commands);
    }

    /** A text whose last character is an error. */
    private void wrong(String commands) {
        first(commands, commands.length() - 1);
        first(commands + "n", commands.length() - 1);
        notRun(commands);
    }

    private void notRun(String commands) {
        GapBuffer x = Due.made("+ab;m0;n;@1");
        same(commands + " is not run", outcome(x, y -> Due.command(y, commands)), REFUSED);
        same(commands + " leaves the text", Due.text(x), "ab\n");
        same(commands + " saves nothing", x.savedStates(), 1);
        same(commands + " stays", x.clearCommands(), commands.length());
    }

    private void buffer() {
        GapBuffer x = new GapBuffer();
        same("empty at first", x.clearCommands(), 0);
        same("no error at first", x.firstError(), 0);
        same("not run at first", outcome(x, y -> y.run()), REFUSED);
        StringBuilder sixty = new StringBuilder();
        for (int i = 0; i < 30; i++) {
            sixty.append(i == 0 ? "+a" : ";n");
        }
        for (int i = 0; i < 60; i++) {
            same("character " + (i + 1), x.append(sixty.charAt(i)), i + 1);
        }
        same("the 61st", outcome(x, y -> y.append('n')),
            "throws java.lang.IllegalStateException");
        same("no error in 60", x.firstError(), 60);
        same("60 are run", x.run(), 0);
        same("60 have run", x.length(), 30);
        same("empty again", x.clearCommands(), 0);
        Due.enter(x, sixty.substring(0, 59) + ";");
        same("an error at the last of 60", x.firstError(), 59);
        same("60 are not run", outcome(x, y -> y.run()), REFUSED);
        same("60 are emptied", x.clearCommands(), 60);
    }

    private void separators() {
        brokenOff("");
        whole("n");
        whole("n;n");
        whole("n;p;+a;-1;<1;@0;m0;x0;p;n");
        brokenOff("n;");
        brokenOff("+a;");
        brokenOff("@1;");
        wrong(";");
        wrong("n;;");
        wrong("nn");
        wrong("pn");
        wrong("m0n");
        wrong("n,");
        wrong("n:");
        wrong("+a+");
        wrong("@1@");
        GapBuffer x = new GapBuffer();
        same("one after the other", Due.command(x, "+ab;@1;+c;n;-1;+d"), 0);
        same("one after the other", Due.text(x), "ac\nd");
    }

    private void letters() {
        brokenOff("+");
        whole("+a");
        whole("+z");
        whole("+" + TWENTY);
        wrong("+;");
        wrong("+" + TWENTY + "u");
        wrong("+`");
        wrong("+{");
        wrong("+A");
        wrong("+Z");
        wrong("+0");
        wrong("+a1");
        wrong("+a~");
        GapBuffer x = Due.filled(8);
        x.moveTo(7);
        same("20 letters", Due.command(x, "+" + TWENTY), 0);
        same("text", Due.text(x), "aaaaaaa" + TWENTY + "a");
        same("caret", x.caret(), 27);
        same("as one edit, growths", x.growths(), 2);
        same("as one edit, copied", x.copied(), 2 * 8);
        same("as one edit, carried", x.carried(), 1);
        same("least and greatest letter", Due.command(x, "+az"), 0);
        same("least letter", x.byteAt(27), 'a');
        same("greatest letter", x.byteAt(28), 'z');
    }

    private void lineBreak() {
        whole("n");
        wrong("n1");
        wrong("na");
        GapBuffer x = Due.typed("ab");
        x.moveTo(1);
        same("line break", Due.command(x, "n"), 0);
        same("text", Due.text(x), "a\nb");
        same("caret", x.caret(), 2);
        same("lines", x.lines(), 2);
        same("into none", Due.command(new GapBuffer(), "n"), 0);
    }

    private void deletion(char name) {
        brokenOff(name + "");
        whole(name + "1");
        whole(name + "9");
        whole(name + "10");
        whole(name + "99");
        wrong(name + "0");
        wrong(name + "100");
        wrong(name + "990");
        wrong(name + ";");
        wrong(name + "/");
        wrong(name + ":");
        wrong(name + "-");
        wrong(name + "1a");
        for (int count : new int[] {1, 9, 10, 98, 99}) {
            GapBuffer x = Due.filled(100);
            x.fill('b', 100);
            x.moveTo(100);
            same(name + " of " + count, Due.command(x, name + "" + count), 0);
            same(name + " of " + count, x.length(), 200 - count);
            same(name + " of " + count, x.caret(), name == '<' ? 100 - count : 100);
            same(name + " of " + count, x.byteAt(x.caret() - 1), 'a');
            same(name + " of " + count, x.byteAt(x.caret()), 'b');
        }
        for (int there = 0; there <= 3; there++) {
            GapBuffer x = Due.typed("abcdef");
            x.moveTo(name == '<' ? there : 6 - there);
            same(name + "2 of " + there, Due.command(x, name + "2"), 0);
            same(name + "2 of " + there, x.length(), 6 - Math.min(2, there));
            Due.command(x, name + "99");
            same(name + "99 of " + there, x.length(), 6 - there);
        }
        same(name + " of no text", Due.command(new GapBuffer(), name + "99"), 0);
    }

    private void move() {
        brokenOff("@");
        for (int number : new int[] {0, 1, 9, 10, 99, 100, 199, 200, 249, 255, 256}) {
            whole("@" + number);
            GapBuffer x = Due.filled(256);
            x.moveTo(7);
            same("to " + number, Due.command(x, "@" + number), 0);
            same("to " + number, x.caret(), number);
            same("the gap stays", x.gapStart(), 256);
        }
        for (int number : new int[] {257, 259, 260, 265, 299, 300, 999, 1000}) {
            wrong("@" + number);
        }
        wrong("@2560");
        wrong("@-");
        wrong("@;");
        GapBuffer none = new GapBuffer();
        same("to 0 of no text", Due.command(none, "@0"), 0);
        same("to 1 of no text", Due.command(none, "@1"), 5);
    }

    private void mark() {
        brokenOff("m");
        for (int mark = 0; mark < 4; mark++) {
            whole("m" + mark);
            GapBuffer x = Due.typed("ab");
            x.setMark(mark, 0);
            x.moveTo(1);
            same("m" + mark, Due.command(x, "m" + mark), 0);
            same("at the caret", x.mark(mark), 1);
            x.type('c');
            same("the side is right", x.mark(mark), 2);
        }
        same("without text", Due.made("m3").mark(3), 0);
    }

    /** The same states as after the method, but for how they are saved. */
    private void cut() {
        brokenOff("x");
        for (int mark = 0; mark < 4; mark++) {
            whole("x" + mark);
            for (int caret = 0; caret <= 8; caret++) {
                GapBuffer x = cuttable(mark, caret);
                GapBuffer y = cuttable(mark, caret);
                x.cut(mark);
                same("fails not", Due.command(y, "x" + mark), 0);
                same("mark at 4, caret at " + caret, y.digest(), x.digest());
                same("goal column", y.up(), x.up());
            }
        }
        GapBuffer x = Due.made("+abcdef;m0;@2;x0");
        same("clipboard", Due.clipboard(x), "cdef");
        same("text", Due.text(x), "ab");
    }

    private static GapBuffer cuttable(int mark, int caret) {
        GapBuffer x = Due.typed("abc\ndefg");
        Due.markAt(x, mark, 4, 0);
        x.moveTo(caret);
        return x;
    }

    private void paste() {
        whole("p");
        wrong("p0");
        wrong("pp");
        for (int caret = 0; caret <= 9; caret++) {
            GapBuffer x = Insertion.ready(9);
            x.moveTo(caret);
            GapBuffer y = Insertion.ready(9);
            y.moveTo(caret);
            x.paste();
            same("fails not", Due.command(y, "p"), 0);
            same("caret at " + caret, y.digest(), x.digest());
        }
        GapBuffer x = Due.made("+abc;m0;@1;x0;p;p");
        same("text", Due.text(x), "abcbc");
        GapBuffer many = sixtyInClipboard();
        same("60 as one edit", Due.command(many, "+a;p"), 0);
        same("60 as one edit", many.copied(), 3);
        same("60 as one edit", many.length(), 61);
    }

    /** No text in an array of eight cells, nothing copied, and 60 bytes in the clipboard. */
    private static GapBuffer sixtyInClipboard() {
        GapBuffer x = new GapBuffer();
        x.setMark(0, 0);
        x.fill('c', 60);
        x.cut(0);
        return x;
    }

    private void marks() {
        for (char name : new char[] {'m', 'x'}) {
            whole(name + "0");
            whole(name + "3");
            wrong(name + "4");
            wrong(name + "9");
            wrong(name + "/");
            wrong(name + "a");
            wrong(name + ";");
            wrong(name + "00");
            wrong(name + "01");
            wrong(name + "10");
            wrong(name + "30");
        }
    }

    private void leadingZeros() {
        for (String name : new String[] {"-", "<"}) {
            wrong(name + "0");
            first(name + "01", 1);
            notRun(name + "01");
            whole(name + "10");
        }
        whole("@0");
        wrong("@00");
        wrong("@01");
        wrong("@07");
        first("@005", 2);
        notRun("@010");
        whole("@100");
        whole("@20");
    }

    /** Every text of up to three signs, against the other reading; and some longer ones. */
    private void errors() {
        for (int length = 0; length <= 3; length++) {
            long wrong = 0;
            int texts = (int) Math.pow(SIGNS.length(), length);
            for (int number = 0; number < texts; number++) {
                wrong += isReadLikeTheModel(number, length) ? 0 : 1;
            }
            same("texts of " + length + " signs read another way", wrong, 0);
        }
        first("n;n;a;", 4);
        first("an", 0);
        first("@25;", 4);
        first("@256;", 5);
        first("@2567", 4);
        first("+abc;-100", 8);
        StringBuilder text = new StringBuilder("+a");
        while (text.length() < 58) {
            text.append(";n");
        }
        same("not to be ended in 60, but no error", text.length(), 58);
        first(text + ";+", 60);
        first(text + ";@", 60);
        first(text + ";x", 60);
        first(text + ";;", 59);
        first(text + ";a", 59);
        first(text + "n;", 58);
        first(text + ";n", 60);
    }

    private static boolean isReadLikeTheModel(int number, int length) {
        GapBuffer x = new GapBuffer();
        Model model = new Model();
        int rest = number;
        for (int i = 0; i < length; i++) {
            int code = SIGNS.charAt(rest % SIGNS.length());
            rest /= SIGNS.length();
            x.append(code);
            model.append(code);
        }
        boolean isSameError = x.firstError() == model.firstError();
        return isSameError && outcome(x, y -> y.run()).equals(outcome(x, y -> model.run()));
    }

    private void reason1() {
        same("letters up to 256", Due.command(Due.filled(236), "+" + TWENTY), 0);
        same("letters beyond", Due.command(Due.filled(237), "+" + TWENTY), 1);
        same("a letter up to 256", Due.command(Due.filled(255), "+a"), 0);
        same("a letter beyond", Due.command(Due.filled(256), "+a"), 1);
        same("a line break up to 256", Due.command(Due.filled(255), "n"), 0);
        same("a line break beyond", Due.command(Due.filled(256), "n"), 1);
        same("a paste up to 256", Due.command(Insertion.ready(255), "p"), 0);
        same("a paste beyond", Due.command(Insertion.ready(256), "p"), 1);
        for (int length : new int[] {196, 197}) {
            GapBuffer x = sixtyInClipboard();
            x.fill('a', 100);
            x.fill('a', length - 100);
            same("60 pasted to " + length, Due.command(x, "p"), length == 196 ? 0 : 1);
            same("length", x.length(), length == 196 ? 256 : 197);
        }
        same("no reason for deletions of none", Due.command(Due.filled(256), "-9;@0;<9"), 0);
    }

    private void reasons2To5() {
        for (int mark = 0; mark < 4; mark++) {
            same("not set", Due.command(Due.filled(70), "x" + mark), 2);
            same("set", Due.command(Due.filled(70), "m" + mark + ";x" + mark), 0);
        }
        same("another is set", Due.command(new GapBuffer(), "m0;m2;m3;x1"), 32);
        for (int length : new int[] {59, 60, 61, 256}) {
            GapBuffer x = Due.filled(length);
            same("behind " + length, Due.command(x, "m0;@0;x0"), length > 60 ? 23 : 0);
            GapBuffer y = Due.filled(length);
            same("before " + length, Due.command(y, "@0;m0;@" + length + ";x0"),
                length > 60 ? 33 : 0);
            same("length", y.length(), length > 60 ? length : 0);
        }
        same("no byte in the clipboard", Due.command(Due.filled(9), "p"), 4);
        same("none, and no room", Due.command(Due.filled(256), "p"), 4);
        same("one byte", Due.command(Insertion.ready(9), "p"), 0);
        same("none after a cut of none", Due.command(Insertion.ready(9), "m0;x0;p"), 24);
        for (int length : new int[] {0, 1, 99, 255}) {
            same("the end", Due.command(Due.filled(length), "@" + length), 0);
            same("behind it", Due.command(Due.filled(length), "@" + (length + 1)), 5);
            same("far behind it", Due.command(Due.filled(length), "@256"), 5);
        }
        same("the greatest end", Due.command(Due.filled(256), "@256"), 0);
    }
}
