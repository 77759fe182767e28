/** A part of the document: the tests of its sentences, and what they are told with. */
abstract class Chapter {
    static final Class<IllegalArgumentException> ARGUMENT = IllegalArgumentException.class;
    static final Class<IllegalStateException> STATE = IllegalStateException.class;
    static final Class<IndexOutOfBoundsException> INDEX = IndexOutOfBoundsException.class;
    static final int NONE = GapBuffer.NONE;

    interface Maker {
        GapBuffer make();
    }

    interface Call {
        long on(GapBuffer x);
    }

    interface NumberCall {
        long on(GapBuffer x, int number);
    }

    private final Sentences sentences;
    private final Due due;

    Chapter(Sentences sentences, Due due) {
        this.sentences = sentences;
        this.due = due;
    }

    abstract void all();

    void under(String heading) {
        sentences.under(heading);
    }

    void test(String sentence, Runnable test) {
        sentences.test(sentence, test);
    }

    void same(String what, long got, long wanted) {
        due.same(what, got, wanted);
    }

    void same(String what, String got, String wanted) {
        due.same(what, got, wanted);
    }

    void holds(String what, boolean isSo) {
        due.holds(what, isSo);
    }

    /** The call throws exactly this exception, and nothing that any later call tells is changed. */
    void refuses(String what, Class<? extends RuntimeException> exception, Maker maker, Call call) {
        same(what, outcome(maker.make(), call), "throws " + exception.getName());
        same(what + " changes nothing", Future.of(() -> after(maker, call)), Future.of(maker));
    }

    /** Each number just outside of a range, and the numbers farthest from it. */
    void refusesOutside(int least, int greatest, Class<? extends RuntimeException> exception,
            Maker maker, NumberCall call) {
        int[] numbers = {least - 1, greatest + 1, least - 256, greatest + 256, Integer.MIN_VALUE,
            Integer.MIN_VALUE + 1, Integer.MAX_VALUE - 1, Integer.MAX_VALUE};
        for (int number : numbers) {
            refuses("number " + number, exception, maker, x -> call.on(x, number));
        }
    }

    /** The call saves a state, by which undo() brings back all that was before it. */
    void undoes(String what, Maker maker, Call call) {
        GapBuffer x = maker.make();
        int saved = x.savedStates();
        call.on(x);
        same(what + " saves a state", x.savedStates(), Math.min(6, saved + 1));
        holds(what + " is tried with fewer than six saved states", saved < 6);
        Maker undone = () -> {
            GapBuffer y = after(maker, call);
            y.clearCommands();
            y.undo();
            return y;
        };
        Maker cleared = () -> {
            GapBuffer y = maker.make();
            y.clearCommands();
            return y;
        };
        same(what + " is undone", Future.of(undone), Future.of(cleared));
    }

    static GapBuffer after(Maker maker, Call call) {
        GapBuffer x = maker.make();
        outcome(x, call);
        return x;
    }

    static String outcome(GapBuffer x, Call call) {
        try {
            return String.valueOf(call.on(x));
        } catch (RuntimeException e) {
            return "throws " + e.getClass().getName();
        }
    }

    /** A state in which everything that can be different from a new object is so. */
    static GapBuffer rich() {
        GapBuffer x = new GapBuffer();
        x.fill('a', 70);
        x.moveTo(0);
        x.setMark(2, 1);
        x.moveTo(30);
        x.setMark(0, 0);
        x.type(10);
        x.moveTo(36);
        x.setMark(1, 1);
        x.copy(0);
        x.moveTo(71);
        Due.command(x, "n;+g;@68");
        x.setEager(true);
        x.down();
        Due.enter(x, "+ab;");
        return x;
    }

    /** Such a state too, with five saved states, so that one more discards none. */
    static GapBuffer richWithRoom() {
        GapBuffer x = new GapBuffer();
        Due.command(x, "+abcdefghijklmno;n;+pqr;m1;n;+stuvwxyz;@4;m0;+q;@2;x0");
        x.setEager(true);
        x.moveTo(10);
        x.setMark(2, 0);
        x.down();
        return x;
    }
}
