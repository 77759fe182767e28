/** The sentences of promises 37 to 40. */
final class CommandPromises extends Chapter {
    private static final Maker SIXTY = () -> {
        GapBuffer x = Due.made("+ab;n;m0");
        Due.enter(x, "+abcdefghijklmnopqrst;+abcdefghijklmnopqrst;@256;x0;p;-99;<9");
        return x;
    };

    CommandPromises(Sentences sentences, Due due) {
        super(sentences, due);
    }

    @Override
    void all() {
        under("Promise 37");
        append();
        under("Promise 38");
        clearCommands();
        under("Promise 39");
        firstError();
        under("Promise 40");
        run();
    }

    private void append() {
        test("Appends a character to the command buffer.", () -> {
            GapBuffer x = new GapBuffer();
            x.append('+');
            x.append('b');
            x.append('a');
            x.run();
            same("behind the others", Due.text(x), "ba");
            x.append('n');
            same("not undoable", x.savedStates(), 1);
            x.undo();
            same("not undone", x.clearCommands(), 1);
        });
        test("`code`: a character code, 33 to 126", () -> {
            GapBuffer x = new GapBuffer();
            int length = 0;
            for (int code : new int[] {33, 34, 125, 126}) {
                length++;
                same("code " + code, x.append(code), length);
            }
        });
        test("Returns the new length of the command buffer.", () -> {
            GapBuffer x = new GapBuffer();
            for (int length = 1; length <= 60; length++) {
                same("length " + length, x.append('!'), length);
            }
            x.clearCommands();
            same("after clearCommands", x.append('n'), 1);
            x.run();
            same("after run", x.append('n'), 1);
        });
        test("Throws `IllegalArgumentException` if code is out of range", () -> {
            refusesOutside(33, 126, ARGUMENT, Chapter::rich, (x, code) -> x.append(code));
            refusesOutside(33, 126, ARGUMENT, GapBuffer::new, (x, code) -> x.append(code));
            refuses("a line break", ARGUMENT, GapBuffer::new, x -> x.append(10));
            refuses("0", ARGUMENT, GapBuffer::new, x -> x.append(0));
        });
        test("Throws `IllegalStateException` if the command buffer contains 60 characters", () -> {
            same("60 characters", SIXTY.make().firstError(), 60);
            refuses("the least code", STATE, SIXTY, x -> x.append(33));
            refuses("the greatest code", STATE, SIXTY, x -> x.append(126));
            refuses("a separator", STATE, SIXTY, x -> x.append(';'));
            GapBuffer x = SIXTY.make();
            x.run();
            same("not after run", x.append('n'), 1);
        });
    }

    private void clearCommands() {
        test("Empties the command buffer.", () -> {
            GapBuffer x = SIXTY.make();
            long digest = x.digest();
            x.clearCommands();
            same("no character", x.firstError(), 0);
            same("nothing to run", outcome(x, y -> y.run()),
                "throws java.lang.IllegalArgumentException");
            same("no command has run", x.digest(), digest);
            same("not undoable", x.savedStates(), 1);
        });
        test("Returns the length that it had.", () -> {
            GapBuffer x = SIXTY.make();
            same("60", x.clearCommands(), 60);
            same("none", x.clearCommands(), 0);
            same("none at first", new GapBuffer().clearCommands(), 0);
            x.append('!');
            same("one, an error too", x.clearCommands(), 1);
        });
    }

    private void firstOf(String commands, int index) {
        GapBuffer x = new GapBuffer();
        Due.enter(x, commands);
        same("first error of " + commands, x.firstError(), index);
        same("again", x.firstError(), index);
    }

    private void firstError() {
        test("Finds the first error of the command buffer.", () -> {
            firstOf("!", 0);
            firstOf("!!", 0);
            firstOf("n!n!", 1);
            firstOf("+a;@9;q;n", 6);
            GapBuffer x = SIXTY.make();
            same("none in 60", x.firstError(), 60);
            same("not undoable", x.savedStates(), 1);
            same("the buffer stays", x.clearCommands(), 60);
            Due.enter(x, "n!");
            same("an error", x.firstError(), 1);
            x.clearCommands();
            same("no error after clearCommands", x.firstError(), 0);
        });
        test("Returns the index of the first character that is an error; the length of the command"
            + " buffer if there is none (also if it is not a complete command text).", () -> {
                firstOf("", 0);
                firstOf("n", 1);
                firstOf("n;", 2);
                firstOf("+", 1);
                firstOf("-", 1);
                firstOf("@25", 3);
                firstOf("n;x", 3);
                firstOf(";", 0);
                firstOf("n;;", 2);
                firstOf("-100", 3);
                firstOf("<0", 1);
                firstOf("@257", 3);
                firstOf("m4", 1);
                firstOf("+abcdefghijklmnopqrstu", 21);
                firstOf("+abcdefghijklmnopqrst", 21);
                StringBuilder errors = new StringBuilder("n");
                while (errors.length() < 60) {
                    errors.append('n');
                }
                firstOf(errors.toString(), 1);
            });
    }

    private void run() {
        test("Executes the commands in the command buffer, one after the other, up to the first one"
            + " that fails, and empties the command buffer.", () -> {
                GapBuffer x = new GapBuffer();
                same("all", Due.command(x, "+ab;@1;n;+c"), 0);
                same("all", Due.text(x), "a\ncb");
                same("emptied", x.clearCommands(), 0);
                same("up to the third", Due.command(x, "@0;+x;p;+y"), 24);
                same("up to the third", Due.text(x), "xa\ncb");
                same("emptied though it fails", x.clearCommands(), 0);
                same("the first", Due.command(x, "@99;+z"), 5);
                same("none", Due.text(x), "xa\ncb");
                same("emptied though none is executed", x.clearCommands(), 0);
            });
        test("A command that fails changes nothing.", this::failing);
        test("Undoable, as one call, also if no command is executed.", () -> {
            undoes("some commands", Chapter::richWithRoom,
                x -> Due.command(x, "+abc;n;@0;m3;x1;p;<9;-9;@2"));
            undoes("one that fails", Chapter::richWithRoom, x -> Due.command(x, "@256"));
            undoes("some before one that fails", Chapter::richWithRoom,
                x -> Due.command(x, "+abc;@0;m0;x3;n"));
            undoes("none that changes anything", GapBuffer::new, x -> Due.command(x, "-1;<1;@0"));
            GapBuffer x = new GapBuffer();
            Due.command(x, "n;n;n;n;n;n;n;n;n;n");
            same("ten commands, one state", x.savedStates(), 1);
            Due.command(x, "x0;n");
            same("none, one state", x.savedStates(), 2);
        });
        test("Returns 0 if no command fails; otherwise 10 times the number of commands that are"
            + " executed, plus the reason.", this::answers);
        test("Throws `IllegalArgumentException` if the command buffer is not a complete command"
            + " text (it stays)", () -> {
                String[] texts = {"", ";", "n;", "n;;n", "nn", "+", "+A", "+a;", "-", "-0", "-100",
                    "<", "<01", "@", "@257", "@00", "m", "m4", "x", "x-", "p;", "pp", "!", "n;+",
                    "+abcdefghijklmnopqrstu", "n;n;n;n;n;n;n;n;n;n;n;n;n;n;n;n;n;n;n;n;"};
                for (String text : texts) {
                    Maker maker = () -> {
                        GapBuffer x = Due.made("+abc;m0;@1;n");
                        Due.enter(x, text);
                        return x;
                    };
                    refuses("run of " + text, ARGUMENT, maker, x -> x.run());
                    GapBuffer x = after(maker, y -> y.run());
                    same(text + " stays", x.clearCommands(), text.length());
                }
                GapBuffer x = new GapBuffer();
                Due.enter(x, "+a;");
                outcome(x, y -> y.run());
                Due.enter(x, "n");
                same("it stays, to be ended", x.run(), 0);
                same("it stays, to be ended", Due.text(x), "a\n");
            });
    }

    /** The failing command stands alone, so that whatever it changes is seen. */
    private void failing() {
        Maker full = () -> {
            GapBuffer x = Insertion.ready(256);
            x.moveTo(99);
            x.setMark(0, 0);
            x.moveTo(9);
            return x;
        };
        String[] onFull = {"+a", "+abc", "n", "p", "x1", "x0"};
        int[] reasons = {1, 1, 1, 1, 2, 3};
        for (int i = 0; i < onFull.length; i++) {
            fails(onFull[i], full, reasons[i]);
        }
        Maker short255 = () -> {
            GapBuffer x = Due.filled(255);
            x.moveTo(9);
            return x;
        };
        fails("+ab", short255, 1);
        fails("p", short255, 4);
        fails("@256", short255, 5);
        fails("x2", () -> Due.made("+abc;m1;@2;x1;m3"), 2);
        fails("@3", () -> Due.made("+abc;m1;@2;x1"), 5);
    }

    private void fails(String command, Maker maker, int reason) {
        GapBuffer x = maker.make();
        long before = x.digest();
        int up = maker.make().up();
        same(command + " fails", Due.command(x, command), reason);
        same(command + " changes nothing", x.digest(), before);
        same(command + " leaves the goal column", x.up(), up);
    }

    private void answers() {
        same("none fails", Due.command(new GapBuffer(), "n"), 0);
        same("none of 30 fails", Due.command(new GapBuffer(), repeated("n", 30)), 0);
        same("the first of one", Due.command(new GapBuffer(), "p"), 4);
        same("the first of two", Due.command(new GapBuffer(), "p;n"), 4);
        same("the second", Due.command(new GapBuffer(), "n;p"), 14);
        same("the 10th", Due.command(new GapBuffer(), repeated("n", 9) + ";p"), 94);
        same("the 11th", Due.command(new GapBuffer(), repeated("n", 10) + ";p"), 104);
        same("the 30th", Due.command(new GapBuffer(), repeated("n", 29) + ";p"), 294);
        same("the last of 29", Due.command(new GapBuffer(), repeated("n", 28) + ";@99"), 285);
        GapBuffer x = Due.filled(256);
        same("reason 1", Due.command(x, "@0;n"), 11);
        same("reason 2", Due.command(x, "@0;x0"), 12);
        same("reason 3", Due.command(x, "m0;@61;x0"), 23);
        same("reason 4", Due.command(x, "@0;p"), 14);
        same("reason 5", Due.command(x, "<1;-1;@256"), 25);
        same("a deletion of none counts as executed", Due.command(new GapBuffer(), "-1;<1;p"), 24);
    }

    private static String repeated(String command, int times) {
        StringBuilder text = new StringBuilder(command);
        for (int i = 1; i < times; i++) {
            text.append(';').append(command);
        }
        return text.toString();
    }
}
