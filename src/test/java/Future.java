import java.util.function.Consumer;

/**
 * All that later calls can tell of an object: what is seen at once, what is seen only by further
 * calls (the goal column, the sides of marks, the command buffer), and the same of each saved
 * state. Each look is made on an object of its own.
 */
final class Future {
    private final Chapter.Maker maker;
    private final StringBuilder told = new StringBuilder();

    private Future(Chapter.Maker maker) {
        this.maker = maker;
    }

    static String of(Chapter.Maker maker) {
        Future future = new Future(maker);
        int saved = maker.make().savedStates();
        for (int undone = 0; undone <= saved; undone++) {
            future.tell(undone);
        }
        future.look(0, x -> Due.command(x, ""));
        future.look(0, x -> x.clearCommands());
        return future.told.toString();
    }

    private void tell(int undone) {
        look(undone, x -> { });
        look(undone, x -> x.up());
        look(undone, x -> x.down());
        for (int mark = 0; mark < 4; mark++) {
            int number = mark;
            look(undone, x -> typeAt(x, number));
        }
    }

    private void look(int undone, Consumer<GapBuffer> step) {
        GapBuffer x = maker.make();
        for (int i = 0; i < undone; i++) {
            x.undo();
        }
        try {
            step.accept(x);
        } catch (RuntimeException e) {
            told.append(e.getClass().getSimpleName()).append(' ');
        }
        told.append(x.digest()).append(' ').append(x.savedStates()).append(' ');
        told.append(x.firstError()).append('\n');
    }

    /** A byte typed at a mark tells its side. */
    private static void typeAt(GapBuffer x, int mark) {
        int position = x.mark(mark);
        if (position == GapBuffer.NONE) {
            return;
        }
        x.moveTo(position);
        if (x.length() == 256 && x.erase(1) == 0) {
            x.backspace(1);
        }
        x.type('s');
    }
}
