/** The sentences under "Undo" and "Exceptions". */
final class UndoTerms extends Chapter {
    UndoTerms(Sentences sentences, Due due) {
        super(sentences, due);
    }

    @Override
    void all() {
        under("Undo");
        test("The state consists of everything except the command buffer and the saved states.",
            this::state);
        test("Each method that is marked \"Undoable\" saves the state from before the call if it"
            + " does not throw an exception, even if nothing changes.", this::saving);
        test("At most 6 states are saved; when one more is saved, the oldest one is discarded.",
            this::sixStates);
        under("Exceptions");
        test("A call that throws an exception changes nothing.", () -> {
            refusedIndexes();
            refusedArguments();
            refusedStates();
        });
        test("If more than one exception applies to a call, the one that is listed first in its"
            + " throws clause is thrown.", this::firstListed);
        test("The constants: `NONE = -1`: There is no such number.", () -> {
            same("NONE", GapBuffer.NONE, -1);
            same("a mark", new GapBuffer().mark(0), -1);
            same("a byte of the clipboard", new GapBuffer().clip(0), -1);
            same("a place of no byte", new GapBuffer().find(0), -1);
            same("a cell", new GapBuffer().cell(0), -1);
            same("a cost", Due.filled(256).costOf(0, 1), -1);
            same("a cost of two", Due.filled(255).costOfTwo(0, 0), -1);
        });
    }

    private void state() {
        undoes("an edit that grows", Chapter::richWithRoom, x -> x.fill('z', 100));
        undoes("a deletion that shrinks", Chapter::richWithRoom, x -> x.backspace(100));
        undoes("a cut", Chapter::richWithRoom, x -> x.cut(2));
        undoes("a command text", Chapter::richWithRoom,
            x -> Due.command(x, "m2;@0;m3;x0;@0;p;n;m0;m1;@1"));
        GapBuffer x = Due.made("+ab;m1;@0");
        x.moveTo(2);
        Due.enter(x, "n;");
        x.undo();
        x.append('p');
        same("the command buffer stays", x.firstError(), 3);
        same("the command buffer stays", x.clearCommands(), 3);
        Due.enter(x, "n");
        x.clearCommands();
        x.undo();
        same("the command buffer stays empty", x.clearCommands(), 0);
        same("the saved states are not brought back", x.savedStates(), 0);
    }

    private void saving() {
        Call[] calls = {x -> x.erase(1), x -> x.moveTo(x.length()), x -> x.moveBy(0),
            x -> x.moveBy(100), x -> x.down(), x -> x.moveInLine(true), x -> x.setEager(false),
            x -> x.setMark(0, 0), x -> x.copy(0), x -> x.cut(0), x -> Due.command(x, "p"),
            x -> Due.command(x, "-1"), x -> Due.command(x, "@3"), x -> Due.command(x, "m0")};
        for (int i = 0; i < calls.length; i++) {
            GapBuffer x = Due.typed("a\nb");
            x.setMark(0, 0);
            long before = x.digest();
            same("saved", x.savedStates(), 4);
            calls[i].on(x);
            same("nothing changed by call " + i, x.digest(), before);
            same("saved by call " + i, x.savedStates(), 5);
        }
        Call[] atTheBeginning = {x -> x.backspace(1), x -> x.moveTo(0), x -> x.moveBy(-100),
            x -> x.up(), x -> x.moveInLine(false), x -> Due.command(x, "<9"), x -> x.down()};
        for (int i = 0; i < atTheBeginning.length; i++) {
            GapBuffer x = new GapBuffer();
            long before = x.digest();
            atTheBeginning[i].on(x);
            same("nothing changed by call " + i, x.digest(), before);
            same("saved without text by call " + i, x.savedStates(), 1);
            same("undone", x.undo(), 0);
        }
        Call[] refused = {x -> x.type(0), x -> x.type('a'), x -> x.fill('a', 1), x -> x.erase(0),
            x -> x.backspace(101), x -> x.moveTo(-1), x -> x.moveBy(101), x -> x.setMark(4, 0),
            x -> x.setMark(0, 2), x -> x.copy(0), x -> x.cut(0), x -> x.paste(), x -> x.run()};
        for (int i = 0; i < refused.length; i++) {
            GapBuffer x = Due.filled(256);
            holds("refused call " + i, outcome(x, refused[i]).startsWith("throws"));
            same("saved by refused call " + i, x.savedStates(), 3);
        }
    }

    private void sixStates() {
        for (int calls = 0; calls <= 20; calls++) {
            GapBuffer x = new GapBuffer();
            for (int i = 0; i < calls; i++) {
                x.type('a');
            }
            int saved = Math.min(6, calls);
            same("saved of " + calls, x.savedStates(), saved);
            for (int undone = 1; undone <= saved; undone++) {
                same("left of " + calls, x.undo(), saved - undone);
                same("the newest first of " + calls, x.length(), calls - undone);
            }
            same("no state is left of " + calls, outcome(x, y -> y.undo()),
                "throws java.lang.IllegalStateException");
            same("the oldest is gone of " + calls, x.length(), calls - saved);
        }
        GapBuffer x = Due.filled(6);
        for (int i = 0; i < 5; i++) {
            x.moveTo(i);
        }
        same("six", x.savedStates(), 6);
        same("undone", x.undo(), 5);
        x.setMark(0, 0);
        same("six again", x.savedStates(), 6);
        x.setMark(1, 0);
        same("one more", x.savedStates(), 6);
        for (int left = 5; left >= 0; left--) {
            x.undo();
        }
        same("the oldest of them is discarded", x.length(), 6);
        same("the next is kept", x.caret(), 6);
    }

    private void refusedIndexes() {
        Call[] calls = {x -> x.moveTo(-1), x -> x.moveTo(x.length() + 1), x -> x.setMark(-1, 0),
            x -> x.setMark(4, 1), x -> x.copy(-1), x -> x.copy(4), x -> x.cut(-1), x -> x.cut(4),
            x -> x.mark(-1), x -> x.mark(4), x -> x.clip(-1), x -> x.find(-1),
            x -> x.find(x.length() + 1), x -> x.byteAt(-1), x -> x.byteAt(x.length()),
            x -> x.lineOf(-1), x -> x.lineOf(x.length() + 1), x -> x.columnOf(-1),
            x -> x.columnOf(x.length() + 1), x -> x.lineStart(-1), x -> x.lineStart(x.lines()),
            x -> x.lineLength(-1), x -> x.lineLength(x.lines()), x -> x.cell(-1),
            x -> x.cell(x.capacity()), x -> x.costOf(-1, 1), x -> x.costOf(x.length() + 1, 1),
            x -> x.costOfTwo(-1, 0), x -> x.costOfTwo(0, x.length() + 1)};
        for (int i = 0; i < calls.length; i++) {
            refuses("index call " + i, INDEX, Chapter::rich, calls[i]);
        }
    }

    private void refusedArguments() {
        Call[] calls = {x -> x.type(9), x -> x.type(127), x -> x.fill(31, 1), x -> x.fill('a', 0),
            x -> x.fill('a', 101), x -> x.erase(0), x -> x.erase(101), x -> x.backspace(0),
            x -> x.backspace(101), x -> x.moveBy(-101), x -> x.moveBy(101), x -> x.setMark(0, -1),
            x -> x.setMark(0, 2), x -> x.costOf(0, 0), x -> x.costOf(0, 101), x -> x.append(32),
            x -> x.append(127), x -> x.run()};
        for (int i = 0; i < calls.length; i++) {
            refuses("argument call " + i, ARGUMENT, Chapter::rich, calls[i]);
        }
    }

    private void refusedStates() {
        same("far from mark 2", rich().caret() - rich().mark(2) > 60 ? 1 : 0, 1);
        Call[] calls = {x -> x.copy(3), x -> x.copy(2), x -> x.cut(3), x -> x.cut(2)};
        for (int i = 0; i < calls.length; i++) {
            refuses("state call " + i, STATE, Chapter::rich, calls[i]);
        }
        Maker full = () -> {
            GapBuffer x = Insertion.ready(256);
            x.moveTo(9);
            x.setMark(0, 1);
            Due.enter(x, "n");
            return x;
        };
        refuses("type into 256", STATE, full, x -> x.type('a'));
        refuses("fill into 256", STATE, full, x -> x.fill('a', 1));
        refuses("paste into 256", STATE, full, x -> x.paste());
        refuses("paste of none", STATE, () -> Due.filled(9), x -> x.paste());
        refuses("undo of none", STATE, () -> {
            GapBuffer x = Due.made("+ab;m0;@1");
            x.undo();
            Due.enter(x, "+z");
            return x;
        }, x -> x.undo());
        refuses("append to 60", STATE, () -> {
            GapBuffer x = rich();
            for (int i = x.firstError(); i < 60; i++) {
                x.append(i % 2 == 0 ? 'n' : ';');
            }
            return x;
        }, x -> x.append('n'));
    }

    private void firstListed() {
        Maker full = () -> Due.filled(256);
        for (int code : new int[] {9, 11, 31, 127}) {
            refuses("type " + code + " into 256", ARGUMENT, full, x -> x.type(code));
            refuses("fill " + code + " into 256", ARGUMENT, full, x -> x.fill(code, 1));
        }
        refuses("fill 0 into 256", ARGUMENT, full, x -> x.fill('a', 0));
        refuses("fill 101 into 256", ARGUMENT, full, x -> x.fill('a', 101));
        for (int mark : new int[] {-1, 4}) {
            for (int side : new int[] {-1, 2}) {
                refuses("setMark", INDEX, GapBuffer::new, x -> x.setMark(mark, side));
            }
            refuses("copy of " + mark + ", none is set", INDEX, GapBuffer::new, x -> x.copy(mark));
            refuses("cut of " + mark + ", none is set", INDEX, GapBuffer::new, x -> x.cut(mark));
        }
        for (int position : new int[] {-1, 257}) {
            for (int count : new int[] {0, 101}) {
                refuses("costOf", INDEX, full, x -> x.costOf(position, count));
            }
        }
        Maker sixty = () -> {
            GapBuffer x = new GapBuffer();
            for (int i = 0; i < 60; i++) {
                x.append('n');
            }
            return x;
        };
        refuses("append 32 to 60", ARGUMENT, sixty, x -> x.append(32));
        refuses("append 127 to 60", ARGUMENT, sixty, x -> x.append(127));
    }
}
