/** Promises 37 to 40: append, clearCommands, firstError, run. */
final class CommandTest {
    private static final Class<IllegalArgumentException> ARGUMENT = IllegalArgumentException.class;
    private static final Class<IllegalStateException> STATE = IllegalStateException.class;

    private static final Due due = new Due();

    public static void main(String[] args) {
        promises37And38();
        promise39();
        incomplete();
        edits();
        movesAndMarks();
        failures();
        undone();
        due.close();
    }

    private static void promises37And38() {
        GapBuffer x = new GapBuffer();
        due.same("38 empty", x.clearCommands(), 0);
        due.same("37 least", x.append(33), 1);
        due.same("37 greatest", x.append(126), 2);
        due.same("38 length", x.clearCommands(), 2);
        due.same("38 emptied", x.clearCommands(), 0);
        int[] wrong = {32, 127, 10, 0, -1, Integer.MIN_VALUE, Integer.MAX_VALUE};
        for (int code : wrong) {
            due.refuses(x, "37 append " + code, ARGUMENT, () -> x.append(code));
        }
        for (int length = 1; length <= 60; length++) {
            due.same("37 append", x.append('n'), length);
        }
        due.refuses(x, "37 full", STATE, () -> x.append('n'));
        due.refuses(x, "37 full and wrong", ARGUMENT, () -> x.append(32));
        due.same("37 38 not undoable", x.savedStates(), 0);
        due.same("38 sixty", x.clearCommands(), 60);
        due.same("37 again", x.append('n'), 1);
    }

    private static void promise39() {
        String letters = "abcdefghijklmnopqrst";
        firstError("", 0);
        firstError("n", 1);
        firstError("n;", 2);
        firstError("n;;", 2);
        firstError(";", 0);
        firstError("n;p;n", 5);
        firstError("nn", 1);
        firstError("p1", 1);
        firstError("n1", 1);
        firstError("+", 1);
        firstError("+;", 1);
        firstError("+a", 2);
        firstError("+az;", 4);
        firstError("+A", 1);
        firstError("+a1", 2);
        firstError("+`", 1);
        firstError("+{", 1);
        firstError("+" + letters, 21);
        firstError("+" + letters + "u", 21);
        firstError("+" + letters + ";+" + letters + "u", 43);
        for (String name : new String[] {"-", "<"}) {
            firstError(name, 1);
            firstError(name + ";", 1);
            firstError(name + "0", 1);
            firstError(name + "1", 2);
            firstError(name + "10", 3);
            firstError(name + "99", 3);
            firstError(name + "99;", 4);
            firstError(name + "100", 3);
            firstError(name + "a", 1);
            firstError(name + "/", 1);
            firstError(name + ":", 1);
        }
        firstError("@", 1);
        firstError("@;", 1);
        firstError("@0", 2);
        firstError("@0;", 3);
        firstError("@00", 2);
        firstError("@01", 2);
        firstError("@99", 3);
        firstError("@199", 4);
        firstError("@256", 4);
        firstError("@257", 3);
        firstError("@260", 3);
        firstError("@25;", 4);
        firstError("@300", 3);
        firstError("@1000", 4);
        for (String name : new String[] {"m", "x"}) {
            firstError(name, 1);
            firstError(name + ";", 1);
            firstError(name + "0", 2);
            firstError(name + "3", 2);
            firstError(name + "3;", 3);
            firstError(name + "4", 1);
            firstError(name + "00", 2);
            firstError(name + "10", 2);
            firstError(name + "-", 1);
        }
        firstError("a", 0);
        firstError("N", 0);
        firstError(">1", 0);
        firstError("!", 0);
        firstError("n;a", 2);
        firstError("!n", 0);
        StringBuilder sixty = new StringBuilder();
        for (int i = 0; i < 30; i++) {
            sixty.append("n;");
        }
        firstError(sixty.toString(), 60);
    }

    private static void firstError(String commands, int index) {
        GapBuffer x = new GapBuffer();
        Due.enter(x, commands);
        due.same("39 firstError of " + commands, x.firstError(), index);
        due.same("39 changes nothing", x.clearCommands(), commands.length());
        due.same("39 not undoable", x.savedStates(), 0);
    }

    private static void incomplete() {
        String[] texts = {"", "n;", ";", "+", "-", "<", "@", "m", "x", "+a;", "n;+", "n;m", "a",
            "nn", "-0", "@257", "@00", "m4", "+A", "p;p;", "n;x"};
        for (String text : texts) {
            GapBuffer x = Due.typed("ab");
            Due.enter(x, text);
            due.refuses(x, "40 run of " + text, ARGUMENT, () -> x.run());
            due.same("40 it stays", x.clearCommands(), text.length());
        }
    }

    private static void edits() {
        GapBuffer x = new GapBuffer();
        due.same("40 letters", Due.command(x, "+abc"), 0);
        due.same("40 text", Due.text(x), "abc");
        due.same("40 emptied", x.clearCommands(), 0);
        due.same("40 undoable", x.savedStates(), 1);
        due.same("40 line break", Due.command(x, "n;+z"), 0);
        due.same("40 text", Due.text(x), "abc\nz");
        due.same("40 before", Due.command(x, "<1"), 0);
        due.same("40 text", Due.text(x), "abc\n");
        due.same("40 before, fewer", Due.command(x, "@2;<99"), 0);
        due.same("40 text", Due.text(x), "c\n");
        due.same("40 behind", Due.command(x, "-1"), 0);
        due.same("40 text", Due.text(x), "\n");
        due.same("40 behind, fewer", Due.command(x, "-99"), 0);
        due.same("40 text", Due.text(x), "");
        due.same("40 none", Due.command(x, "-1;<10"), 0);
        due.same("40 twelve", Due.command(x, "+abcdefghijkl;@0;-10"), 0);
        due.same("40 text", Due.text(x), "kl");

        GapBuffer y = Due.typed("ab");
        y.moveTo(1);
        Due.command(y, "+abcdefghijklmnopqrst");
        due.same("40 as one edit", y.copied(), 2 * 2);
        due.same("40 growths", y.growths(), 2);
        due.same("40 carried", y.carried(), 1);
        due.same("40 caret", y.caret(), 21);
        due.same("40 text", Due.text(y), "aabcdefghijklmnopqrstb");
    }

    private static void movesAndMarks() {
        GapBuffer x = Due.typed("abcdef");
        due.same("40 move", Due.command(x, "@2"), 0);
        due.same("40 caret", x.caret(), 2);
        due.same("40 gap stays", x.gapStart(), 6);
        x.setEager(true);
        due.same("40 eager move", Due.command(x, "@5"), 0);
        due.same("40 gap follows", x.gapStart(), 5);
        due.same("40 mark", Due.command(x, "m3;m0;@1;m1;@0;m0;@3"), 0);
        due.same("40 marks", x.mark(3), 5);
        due.same("40 marks", x.mark(0), 0);
        due.same("40 marks", x.mark(1), 1);
        due.same("40 cut before", Due.command(x, "x1"), 0);
        due.same("40 clipboard", Due.clipboard(x), "bc");
        due.same("40 text", Due.text(x), "adef");
        due.same("40 cut behind", Due.command(x, "x3;p;p"), 0);
        due.same("40 text", Due.text(x), "adedef");
        due.same("40 caret", x.caret(), 5);
        due.same("40 cut of no byte", Due.command(x, "m2;x2"), 0);
        due.same("40 clipboard", Due.clipboard(x), "");
        Due.command(x, "@1;m0;+q");
        due.same("40 the side is right", x.mark(0), 2);
    }

    private static void failures() {
        GapBuffer x = new GapBuffer();
        due.same("40 not set", Due.command(x, "x0"), 2);
        due.same("40 emptied", x.clearCommands(), 0);
        due.same("40 saved", x.savedStates(), 1);
        due.same("40 clipboard empty", Due.command(x, "p"), 4);
        due.same("40 no position", Due.command(x, "@1"), 5);
        due.same("40 up to it", Due.command(x, "+ab;@0;n;@4;+c"), 35);
        due.same("40 text", Due.text(x), "\nab");
        due.same("40 caret", x.caret(), 1);
        due.same("40 a position at the end", Due.command(x, "@3;x3"), 12);
        due.same("40 many", Due.command(x, "n;n;n;n;n;n;n;n;n;n;n;p"), 114);
        x.moveTo(0);
        x.setMark(0, 0);
        x.fill('a', 61);
        due.same("40 region", Due.command(x, "x0"), 3);
        due.same("40 region of 60", Due.command(x, "@60;x0"), 0);
        due.same("40 region of 0", Due.command(x, "x0;p"), 14);

        GapBuffer y = new GapBuffer();
        y.fill('a', 100);
        y.fill('a', 100);
        y.fill('a', 54);
        due.same("40 one too many", Due.command(y, "+abc"), 1);
        due.same("40 changes nothing", y.length(), 254);
        due.same("40 just full", Due.command(y, "+ab;n"), 11);
        due.same("40 full", y.length(), 256);
        due.same("40 line break", Due.command(y, "n"), 1);
        due.same("40 paste", Due.command(y, "m0;<5;m1;<3;x1;p"), 54);
        due.same("40 length", y.length(), 248);
        y.moveTo(248);
        due.same("40 paste", Due.command(y, "m1;<9;+zzzzzzzzz;m2;@239;x2;p;p"), 71);
        due.same("40 length", y.length(), 248);
        due.same("40 position 256", Due.command(y, "@248;+aaaaaaaa;@256"), 0);
        due.same("40 caret", y.caret(), 256);
    }

    private static void undone() {
        GapBuffer x = Due.typed("ab");
        Due.command(x, "+c;n;+d");
        due.same("40 as one call", x.savedStates(), 3);
        x.append('n');
        due.same("41 undo", x.undo(), 2);
        due.same("41 text", Due.text(x), "ab");
        due.same("41 the command buffer stays", x.clearCommands(), 1);
    }
}
