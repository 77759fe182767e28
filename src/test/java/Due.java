/** Compares answers with those that are due, counts them, and ends the test program. */
final class Due {
    interface Call {
        long answer();
    }

    private int passed = 0;
    private int failed = 0;
    private String place = "";

    /** Where in the document the answers that follow belong. */
    void under(String place) {
        this.place = place;
    }

    int answers() {
        return passed + failed;
    }

    void same(String what, long got, long due) {
        note(got == due, what, String.valueOf(got), String.valueOf(due));
    }

    void same(String what, String got, String due) {
        note(got.equals(due), what, "\"" + got + "\"", "\"" + due + "\"");
    }

    void holds(String what, boolean isSo) {
        note(isSo, what, "no", "yes");
    }

    /** The call throws exactly this exception, and changes nothing. */
    void refuses(GapBuffer x, String what, Class<? extends RuntimeException> due, Call call) {
        String before = atAGlance(x);
        String got = "an answer";
        try {
            call.answer();
        } catch (RuntimeException e) {
            got = e.getClass().getName();
        }
        note(got.equals(due.getName()), what, got, due.getName());
        String after = atAGlance(x);
        note(after.equals(before), what + " changes nothing", after, before);
    }

    /** By few calls: an object answers as the document says for 512 calls only. */
    private static String atAGlance(GapBuffer x) {
        return x.digest() + " " + x.savedStates() + " " + x.firstError();
    }

    /** Two states are the same for every call of the face that tells of them. */
    static String everything(GapBuffer x) {
        StringBuilder all = new StringBuilder();
        all.append(atAGlance(x)).append(' ').append(text(x)).append(' ').append(cells(x));
        for (int mark = 0; mark < 4; mark++) {
            all.append(' ').append(x.mark(mark));
        }
        return all.toString();
    }

    void close() {
        System.out.println(passed + " answers are as due, " + failed + " are not");
        if (failed != 0 || passed == 0) {
            System.exit(1);
        }
    }

    private void note(boolean isDue, String what, String got, String due) {
        if (isDue) {
            passed++;
        } else {
            failed++;
            System.out.println(place + what + " answered " + got + ", due is " + due);
        }
    }

    /** A new object with a text, typed byte by byte. */
    static GapBuffer typed(String text) {
        GapBuffer x = new GapBuffer();
        for (int i = 0; i < text.length(); i++) {
            x.type(text.charAt(i));
        }
        return x;
    }

    /** A new object with a text of that many "a", typed by few calls. */
    static GapBuffer filled(int length) {
        GapBuffer x = new GapBuffer();
        for (int left = length; left > 0; left -= 100) {
            x.fill('a', Math.min(100, left));
        }
        return x;
    }

    /** A new object after a command text. */
    static GapBuffer made(String commands) {
        GapBuffer x = new GapBuffer();
        command(x, commands);
        return x;
    }

    static String text(GapBuffer x) {
        StringBuilder text = new StringBuilder();
        for (int i = 0; i < x.length(); i++) {
            text.append((char) x.byteAt(i));
        }
        return text.toString();
    }

    /** The array, with "_" for a cell of the gap. */
    static String cells(GapBuffer x) {
        StringBuilder cells = new StringBuilder();
        for (int i = 0; i < x.capacity(); i++) {
            int code = x.cell(i);
            cells.append(code == GapBuffer.NONE ? '_' : (char) code);
        }
        return cells.toString();
    }

    static String clipboard(GapBuffer x) {
        StringBuilder clipboard = new StringBuilder();
        for (int i = 0; x.clip(i) != GapBuffer.NONE; i++) {
            clipboard.append((char) x.clip(i));
        }
        return clipboard.toString();
    }

    /** Puts a mark at a position, and the caret back to where it was. */
    static void markAt(GapBuffer x, int mark, int position, int side) {
        int caret = x.caret();
        x.moveTo(position);
        x.setMark(mark, side);
        x.moveTo(caret);
    }

    /** Puts a command text into the command buffer. */
    static void enter(GapBuffer x, String commands) {
        for (int i = 0; i < commands.length(); i++) {
            x.append(commands.charAt(i));
        }
    }

    /** Executes a command text. */
    static int command(GapBuffer x, String commands) {
        enter(x, commands);
        return x.run();
    }
}
