/**
 * A gap buffer of a text editor: a text of bytes in an array with a gap, a caret, marks, a
 * clipboard, lines and columns, forecasts of costs, commands that are read from texts, and undo.
 *
 * <p>All rows are made in the constructors and used again, so that no call makes an object.
 */
public final class GapBuffer {
    public static final int NONE = -1;

    private static final int LINE_BREAK = 10;
    private static final int SPACE = 32;
    private static final int TILDE = 126;

    private static final int MAX_TEXT = 256;
    private static final int MAX_CLIPBOARD = 60;
    private static final int MAX_COMMANDS = 60;
    private static final int MAX_COUNT = 100;
    private static final int MAX_SAVED = 6;
    private static final int MARKS = 4;
    private static final int LEFT = 0;
    private static final int RIGHT = 1;

    private static final int MIN_CAPACITY = 8;
    /** Doublings from the least capacity, 8, to the greatest, 256. */
    private static final int MAX_DOUBLINGS = 5;

    private static final int MAX_LETTERS = 20;
    private static final int MAX_DELETION = 99;

    /** Why an edit or a move can't be done; the numbers are those that run() answers. */
    private static final int FINE = 0;
    private static final int TEXT_FULL = 1;
    private static final int MARK_NOT_SET = 2;
    private static final int REGION_TOO_LONG = 3;
    private static final int CLIPBOARD_EMPTY = 4;
    private static final int NO_SUCH_POSITION = 5;

    private static final long HASH_START = 8134;

    private final State state = new State();
    private final History history = new History();
    private final Commands commands = new Commands();
    /** Forecasts are made on this copy of the layout, by the same steps as the edits. */
    private final Layout forecast = new Layout();

    public GapBuffer() {
    }

    // ---- edits

    public int type(int code) throws IllegalArgumentException, IllegalStateException {
        requireArgument(isByte(code));
        requireState(state.insertFault(1) == FINE);
        history.save(state);
        state.insertRepeated(code, 1);
        return state.text.size();
    }

    public int fill(int code, int count) throws IllegalArgumentException, IllegalStateException {
        requireArgument(isByte(code) && isCount(count));
        requireState(state.insertFault(count) == FINE);
        history.save(state);
        state.insertRepeated(code, count);
        return state.text.size();
    }

    public int erase(int count) throws IllegalArgumentException {
        requireArgument(isCount(count));
        history.save(state);
        return state.deleteBehind(count);
    }

    public int backspace(int count) throws IllegalArgumentException {
        requireArgument(isCount(count));
        history.save(state);
        return state.deleteBefore(count);
    }

    // ---- moving

    public int moveTo(int position) throws IndexOutOfBoundsException {
        requireIndex(isPosition(position));
        history.save(state);
        return state.moveCaret(position);
    }

    public int moveBy(int count) throws IllegalArgumentException {
        requireArgument(count >= -MAX_COUNT && count <= MAX_COUNT);
        history.save(state);
        state.moveCaret(Math.max(0, Math.min(state.text.size(), state.caret + count)));
        return state.caret;
    }

    public int up() {
        history.save(state);
        state.moveUp();
        return state.caret;
    }

    public int down() {
        history.save(state);
        state.moveDown();
        return state.caret;
    }

    public int moveInLine(boolean isEnd) {
        history.save(state);
        int begin = state.text.lineBegin(state.caret);
        int end = state.text.lineEnd(state.caret);
        state.moveCaret(isEnd ? end : begin);
        return state.caret;
    }

    public int setEager(boolean isEager) {
        history.save(state);
        state.isEager = isEager;
        return state.letGapFollow();
    }

    // ---- marks, clipboard

    public int setMark(int mark, int side)
            throws IndexOutOfBoundsException, IllegalArgumentException {
        requireIndex(isMark(mark));
        requireArgument(side == LEFT || side == RIGHT);
        history.save(state);
        int previous = state.marks.positionOf(mark);
        state.marks.place(mark, state.caret, side);
        return previous;
    }

    public int copy(int mark) throws IndexOutOfBoundsException, IllegalStateException {
        requireIndex(isMark(mark));
        requireState(state.regionFault(mark) == FINE);
        history.save(state);
        state.copyRegion(mark);
        return state.clipboard.size();
    }

    public int cut(int mark) throws IndexOutOfBoundsException, IllegalStateException {
        requireIndex(isMark(mark));
        requireState(state.regionFault(mark) == FINE);
        history.save(state);
        state.cutRegion(mark);
        return state.clipboard.size();
    }

    public int paste() throws IllegalStateException {
        requireState(state.pasteFault() == FINE);
        history.save(state);
        state.insertPart(state.clipboard, 0, state.clipboard.size());
        return state.text.size();
    }

    public int mark(int mark) throws IndexOutOfBoundsException {
        requireIndex(isMark(mark));
        return state.marks.positionOf(mark);
    }

    public int clip(int index) throws IndexOutOfBoundsException {
        requireIndex(index >= 0);
        return state.clipboard.at(index);
    }

    public int find(int from) throws IndexOutOfBoundsException {
        requireIndex(isPosition(from));
        return state.text.firstPlaceOf(state.clipboard, from);
    }

    // ---- text

    public int length() {
        return state.text.size();
    }

    public int caret() {
        return state.caret;
    }

    public int byteAt(int position) throws IndexOutOfBoundsException {
        requireIndex(position >= 0 && position < state.text.size());
        return state.text.at(position);
    }

    public int lines() {
        return state.text.lineCount();
    }

    public int lineOf(int position) throws IndexOutOfBoundsException {
        requireIndex(isPosition(position));
        return state.text.breaksBefore(position);
    }

    public int columnOf(int position) throws IndexOutOfBoundsException {
        requireIndex(isPosition(position));
        return position - state.text.lineBegin(position);
    }

    public int lineStart(int line) throws IndexOutOfBoundsException {
        requireIndex(isLine(line));
        return state.text.beginOfLine(line);
    }

    public int lineLength(int line) throws IndexOutOfBoundsException {
        requireIndex(isLine(line));
        int begin = state.text.beginOfLine(line);
        return state.text.lineEnd(begin) - begin;
    }

    // ---- array

    public int capacity() {
        return state.layout.capacity;
    }

    public int gapStart() {
        return state.layout.gapStart;
    }

    public int cell(int index) throws IndexOutOfBoundsException {
        requireIndex(index >= 0 && index < state.layout.capacity);
        return state.cellAt(index);
    }

    public int carried() {
        return state.layout.carried;
    }

    public int copied() {
        return state.layout.copied;
    }

    public int growths() {
        return state.layout.growths;
    }

    public int shrinks() {
        return state.layout.shrinks;
    }

    // ---- forecasts; they change nothing

    public int costOf(int position, int count)
            throws IndexOutOfBoundsException, IllegalArgumentException {
        requireIndex(isPosition(position));
        requireArgument(isCount(count));
        if (state.insertFault(count) != FINE) {
            return NONE;
        }
        forecast.assign(state.layout);
        forecast.insertAt(position, count, state.text.size());
        return forecast.cost() - state.layout.cost();
    }

    public int costOfTwo(int one, int other) throws IndexOutOfBoundsException {
        requireIndex(isPosition(one) && isPosition(other));
        if (state.insertFault(2) != FINE) {
            return NONE;
        }
        int second = other >= one ? other + 1 : other;
        forecast.assign(state.layout);
        forecast.insertAt(one, 1, state.text.size());
        forecast.insertAt(second, 1, state.text.size() + 1);
        return forecast.cost() - state.layout.cost();
    }

    public int room() {
        return state.layout.capacity - state.text.size();
    }

    // ---- command text

    public int append(int code) throws IllegalArgumentException, IllegalStateException {
        requireArgument(code > SPACE && code <= TILDE);
        requireState(commands.buffer.size() < MAX_COMMANDS);
        commands.buffer.add(code);
        return commands.buffer.size();
    }

    public int clearCommands() {
        int size = commands.buffer.size();
        commands.buffer.clear();
        return size;
    }

    public int firstError() {
        return commands.firstFault();
    }

    public int run() throws IllegalArgumentException {
        requireArgument(commands.isComplete());
        history.save(state);
        int answer = commands.executeOn(state);
        commands.buffer.clear();
        return answer;
    }

    // ---- undo

    public int undo() throws IllegalStateException {
        requireState(history.count() > 0);
        history.restore(state);
        return history.count();
    }

    public int savedStates() {
        return history.count();
    }

    public long digest() {
        return state.hash();
    }

    // ---- what is asked of arguments

    private static void requireArgument(boolean isMet) {
        if (!isMet) {
            throw new IllegalArgumentException();
        }
    }

    private static void requireIndex(boolean isMet) {
        if (!isMet) {
            throw new IndexOutOfBoundsException();
        }
    }

    private static void requireState(boolean isMet) {
        if (!isMet) {
            throw new IllegalStateException();
        }
    }

    private static boolean isByte(int code) {
        return code == LINE_BREAK || code >= SPACE && code <= TILDE;
    }

    private static boolean isCount(int count) {
        return count >= 1 && count <= MAX_COUNT;
    }

    private static boolean isMark(int mark) {
        return mark >= 0 && mark < MARKS;
    }

    private boolean isPosition(int position) {
        return position >= 0 && position <= state.text.size();
    }

    private boolean isLine(int line) {
        return line >= 0 && line < state.text.lineCount();
    }

    /** A row of bytes up to a limit. Its bytes stand together: the gap is the layout's affair. */
    private static final class Bytes {
        private final int[] codes;
        private int size = 0;

        Bytes(int limit) {
            codes = new int[Math.max(0, limit)];
        }

        int size() {
            return size;
        }

        int at(int index) {
            return index >= 0 && index < size ? codes[index] : NONE;
        }

        void put(int index, int code) {
            if (index >= 0 && index < size) {
                codes[index] = code;
            }
        }

        void add(int code) {
            open(size, 1);
            put(size - 1, code);
        }

        void clear() {
            size = 0;
        }

        /** Makes the row longer; what stands in the new part is to be put there next. */
        void open(int position, int count) {
            boolean fits = count >= 0 && count <= codes.length - size;
            if (fits && position >= 0 && position <= size) {
                System.arraycopy(codes, position, codes, position + count, size - position);
                size += count;
            }
        }

        void close(int position, int count) {
            if (position >= 0 && count >= 0 && count <= size - position) {
                int behind = position + count;
                System.arraycopy(codes, behind, codes, position, size - behind);
                size -= count;
            }
        }

        /** Becomes a part of another row. */
        void assign(Bytes source, int from, int count) {
            boolean exists = from >= 0 && count >= 0 && count <= source.size - from;
            if (exists && count <= codes.length) {
                System.arraycopy(source.codes, from, codes, 0, count);
                size = count;
            }
        }

        int firstPlaceOf(Bytes wanted, int from) {
            if (wanted.size == 0) {
                return NONE;
            }
            for (int position = from; position <= size - wanted.size; position++) {
                if (hasAt(position, wanted)) {
                    return position;
                }
            }
            return NONE;
        }

        private boolean hasAt(int position, Bytes wanted) {
            for (int i = 0; i < wanted.size; i++) {
                if (at(position + i) != wanted.at(i)) {
                    return false;
                }
            }
            return true;
        }

        int lineCount() {
            return breaksBefore(size) + 1;
        }

        int breaksBefore(int position) {
            int breaks = 0;
            for (int i = 0; i < position; i++) {
                if (at(i) == LINE_BREAK) {
                    breaks++;
                }
            }
            return breaks;
        }

        /** Where the line of a position begins. */
        int lineBegin(int position) {
            int begin = position;
            while (begin > 0 && at(begin - 1) != LINE_BREAK) {
                begin--;
            }
            return begin;
        }

        /** Where the line of a position ends. */
        int lineEnd(int position) {
            int end = position;
            while (end < size && at(end) != LINE_BREAK) {
                end++;
            }
            return end;
        }

        int beginOfLine(int line) {
            int begin = 0;
            for (int i = 0; i < line; i++) {
                begin = lineEnd(begin) + 1;
            }
            return begin;
        }
    }

    /** The four marks. */
    private static final class Marks {
        private final int[] positions = new int[MARKS];
        private final int[] sides = new int[MARKS];

        Marks() {
            for (int mark = 0; mark < MARKS; mark++) {
                positions[mark] = NONE;
            }
        }

        int positionOf(int mark) {
            return isMark(mark) ? positions[mark] : NONE;
        }

        void place(int mark, int position, int side) {
            if (isMark(mark)) {
                positions[mark] = position;
                sides[mark] = side;
            }
        }

        void shiftForInsertion(int position, int count) {
            for (int mark = 0; mark < MARKS; mark++) {
                boolean isPushed = positions[mark] == position && sides[mark] == RIGHT;
                if (positions[mark] > position || isPushed) {
                    positions[mark] += count;
                }
            }
        }

        /** NONE is less than any position, so a mark that is not set stays so. */
        void shiftForDeletion(int position, int count) {
            for (int mark = 0; mark < MARKS; mark++) {
                if (positions[mark] > position) {
                    positions[mark] = Math.max(position, positions[mark] - count);
                }
            }
        }

        void assign(Marks other) {
            for (int mark = 0; mark < MARKS; mark++) {
                place(mark, other.positions[mark], other.sides[mark]);
            }
        }
    }

    /** How the text lies in the array, and what its edits and moves cost so far. */
    private static final class Layout {
        private int capacity = MIN_CAPACITY;
        private int gapStart = 0;
        private int carried = 0;
        private int copied = 0;
        private int growths = 0;
        private int shrinks = 0;

        int cost() {
            return carried + copied;
        }

        int moveGap(int position) {
            int distance = Math.abs(position - gapStart);
            gapStart = position;
            carried += distance;
            return distance;
        }

        /** The length is that of the text before the insertion. */
        void insertAt(int position, int count, int length) {
            moveGap(position);
            for (int i = 0; i < MAX_DOUBLINGS && capacity - length < count; i++) {
                capacity *= 2;
                copied += length;
                growths++;
            }
            gapStart += count;
        }

        /** The length is that of the text after the deletion, which begins at start. */
        void deleteAt(int position, int start, int length) {
            moveGap(position);
            gapStart = start;
            for (int i = 0; i < MAX_DOUBLINGS && isTooLarge(length); i++) {
                capacity /= 2;
                copied += length;
                shrinks++;
            }
        }

        private boolean isTooLarge(int length) {
            return capacity > MIN_CAPACITY && length <= capacity / 4;
        }

        void assign(Layout other) {
            capacity = other.capacity;
            gapStart = other.gapStart;
            carried = other.carried;
            copied = other.copied;
            growths = other.growths;
            shrinks = other.shrinks;
        }
    }

    /** All that undo() brings back. */
    private static final class State {
        private final Bytes text = new Bytes(MAX_TEXT);
        private final Bytes clipboard = new Bytes(MAX_CLIPBOARD);
        private final Marks marks = new Marks();
        private final Layout layout = new Layout();
        private int caret = 0;
        private int goalColumn = 0;
        private boolean isEager = false;

        int insertFault(int count) {
            return text.size() + count > MAX_TEXT ? TEXT_FULL : FINE;
        }

        int pasteFault() {
            return clipboard.size() == 0 ? CLIPBOARD_EMPTY : insertFault(clipboard.size());
        }

        int regionFault(int mark) {
            int position = marks.positionOf(mark);
            if (position == NONE) {
                return MARK_NOT_SET;
            }
            return Math.abs(position - caret) > MAX_CLIPBOARD ? REGION_TOO_LONG : FINE;
        }

        int positionFault(int position) {
            return position > text.size() ? NO_SUCH_POSITION : FINE;
        }

        void insertRepeated(int code, int count) {
            int start = openSpace(count);
            for (int i = 0; i < count; i++) {
                text.put(start + i, code);
            }
            goalColumn = caretColumn();
        }

        void insertPart(Bytes source, int from, int count) {
            int start = openSpace(count);
            for (int i = 0; i < count; i++) {
                text.put(start + i, source.at(from + i));
            }
            goalColumn = caretColumn();
        }

        private int openSpace(int count) {
            int start = caret;
            layout.insertAt(start, count, text.size());
            marks.shiftForInsertion(start, count);
            text.open(start, count);
            caret = start + count;
            return start;
        }

        int deleteBehind(int count) {
            int deleted = Math.min(count, text.size() - caret);
            deletePart(caret, deleted);
            return deleted;
        }

        int deleteBefore(int count) {
            int deleted = Math.min(count, caret);
            deletePart(caret - deleted, deleted);
            return deleted;
        }

        /** The caret is at one end of the part. */
        private void deletePart(int start, int count) {
            if (count > 0) {
                text.close(start, count);
                layout.deleteAt(caret, start, text.size());
                marks.shiftForDeletion(start, count);
                caret = start;
            }
            goalColumn = caretColumn();
        }

        void copyRegion(int mark) {
            int position = marks.positionOf(mark);
            int start = Math.min(position, caret);
            clipboard.assign(text, start, Math.max(position, caret) - start);
        }

        void cutRegion(int mark) {
            copyRegion(mark);
            deletePart(Math.min(marks.positionOf(mark), caret), clipboard.size());
        }

        int moveCaret(int position) {
            caret = position;
            goalColumn = caretColumn();
            return letGapFollow();
        }

        int letGapFollow() {
            return isEager ? layout.moveGap(caret) : 0;
        }

        void moveUp() {
            int begin = text.lineBegin(caret);
            if (begin > 0) {
                moveToGoal(begin - 1);
            }
        }

        void moveDown() {
            int end = text.lineEnd(caret);
            if (end < text.size()) {
                moveToGoal(end + 1);
            }
        }

        /** Moves the caret in the line of a position. */
        private void moveToGoal(int position) {
            int goal = text.lineBegin(position) + goalColumn;
            caret = Math.min(goal, text.lineEnd(position));
            letGapFollow();
        }

        private int caretColumn() {
            return caret - text.lineBegin(caret);
        }

        int cellAt(int index) {
            if (index < layout.gapStart) {
                return text.at(index);
            }
            int gap = layout.capacity - text.size();
            return index < layout.gapStart + gap ? NONE : text.at(index - gap);
        }

        long hash() {
            long hash = 31 * HASH_START + text.size();
            hash = 31 * hash + caret;
            hash = 31 * hash + layout.capacity;
            hash = 31 * hash + layout.gapStart;
            hash = 31 * hash + layout.carried;
            hash = 31 * hash + layout.copied;
            hash = 31 * hash + layout.growths;
            hash = 31 * hash + layout.shrinks;
            hash = 31 * hash + text.lineCount();
            hash = 31 * hash + caretColumn();
            hash = 31 * hash + (isEager ? 1 : 0);
            for (int mark = 0; mark < MARKS; mark++) {
                hash = 31 * hash + marks.positionOf(mark);
            }
            hash = hashOn(hash, text);
            return hashOn(31 * hash + clipboard.size(), clipboard);
        }

        private static long hashOn(long start, Bytes bytes) {
            long hash = start;
            for (int i = 0; i < bytes.size(); i++) {
                hash = 31 * hash + bytes.at(i);
            }
            return hash;
        }

        void assign(State other) {
            text.assign(other.text, 0, other.text.size());
            clipboard.assign(other.clipboard, 0, other.clipboard.size());
            marks.assign(other.marks);
            layout.assign(other.layout);
            caret = other.caret;
            goalColumn = other.goalColumn;
            isEager = other.isEager;
        }
    }

    /** The states that were saved last, in a ring of rows. */
    private static final class History {
        private final State[] rows = new State[MAX_SAVED];
        private int next = 0;
        private int count = 0;

        History() {
            for (int i = 0; i < rows.length; i++) {
                rows[i] = new State();
            }
        }

        int count() {
            return count;
        }

        void save(State state) {
            if (next == rows.length) {
                next = 0;
            }
            rows[next].assign(state);
            next++;
            count = Math.min(count + 1, rows.length);
        }

        void restore(State state) {
            next = next > 0 ? next - 1 : rows.length - 1;
            count--;
            state.assign(rows[next]);
        }
    }

    /** The command buffer, and what is done with it. */
    private static final class Commands {
        private final Bytes buffer = new Bytes(MAX_COMMANDS);
        private final Reader reader = new Reader();

        int firstFault() {
            reader.restart();
            for (int i = 0; i < buffer.size(); i++) {
                if (!reader.accept(buffer.at(i))) {
                    return i;
                }
            }
            return buffer.size();
        }

        boolean isComplete() {
            return firstFault() == buffer.size() && reader.isAtEnd();
        }

        /** Answers as run() does. The buffer is a complete command text. */
        int executeOn(State state) {
            int executed = 0;
            reader.restart();
            for (int i = 0; i < buffer.size(); i++) {
                reader.accept(buffer.at(i));
                if (isEndOfCommand(i + 1)) {
                    int fault = faultOn(state);
                    if (fault != FINE) {
                        return 10 * executed + fault;
                    }
                    execute(state, i + 1);
                    executed++;
                }
            }
            return 0;
        }

        private boolean isEndOfCommand(int index) {
            return index == buffer.size() || buffer.at(index) == ';';
        }

        private int faultOn(State state) {
            switch (reader.command) {
                case '+':
                    return state.insertFault(reader.letters);
                case 'n':
                    return state.insertFault(1);
                case '@':
                    return state.positionFault(reader.number);
                case 'x':
                    return state.regionFault(reader.number);
                case 'p':
                    return state.pasteFault();
                default:
                    return FINE;
            }
        }

        private void execute(State state, int end) {
            switch (reader.command) {
                case '+':
                    state.insertPart(buffer, end - reader.letters, reader.letters);
                    break;
                case 'n':
                    state.insertRepeated(LINE_BREAK, 1);
                    break;
                case '-':
                    state.deleteBehind(reader.number);
                    break;
                case '<':
                    state.deleteBefore(reader.number);
                    break;
                case '@':
                    state.moveCaret(reader.number);
                    break;
                case 'm':
                    state.marks.place(reader.number, state.caret, RIGHT);
                    break;
                case 'x':
                    state.cutRegion(reader.number);
                    break;
                case 'p':
                    state.insertPart(state.clipboard, 0, state.clipboard.size());
                    break;
                default:
                    break;
            }
        }
    }

    /**
     * Reads a command text, a character at a time, and knows the command that it is in. What it
     * has accepted can always be made a command text by more characters.
     */
    private static final class Reader {
        private int command = NONE;
        private int letters = 0;
        private int number = NONE;

        void restart() {
            command = NONE;
            letters = 0;
            number = NONE;
        }

        boolean accept(int code) {
            if (command == NONE) {
                return acceptCommand(code);
            }
            if (code == ';') {
                return acceptSeparator();
            }
            return command == '+' ? acceptLetter(code) : acceptDigit(code);
        }

        /** Whether a command text may end here. */
        boolean isAtEnd() {
            switch (command) {
                case NONE:
                    return false;
                case '+':
                    return letters > 0;
                case 'n':
                case 'p':
                    return true;
                default:
                    return number != NONE;
            }
        }

        private boolean acceptCommand(int code) {
            switch (code) {
                case '+':
                case 'n':
                case '-':
                case '<':
                case '@':
                case 'm':
                case 'x':
                case 'p':
                    command = code;
                    return true;
                default:
                    return false;
            }
        }

        private boolean acceptSeparator() {
            if (!isAtEnd()) {
                return false;
            }
            restart();
            return true;
        }

        private boolean acceptLetter(int code) {
            if (code < 'a' || code > 'z' || letters == MAX_LETTERS) {
                return false;
            }
            letters++;
            return true;
        }

        private boolean acceptDigit(int code) {
            boolean hasLeadingZero = number == 0;
            if (code < '0' || code > '9' || hasLeadingZero) {
                return false;
            }
            int longer = 10 * Math.max(0, number) + code - '0';
            if (longer < leastNumber() || longer > greatestNumber()) {
                return false;
            }
            number = longer;
            return true;
        }

        private int leastNumber() {
            return command == '-' || command == '<' ? 1 : 0;
        }

        private int greatestNumber() {
            switch (command) {
                case '-':
                case '<':
                    return MAX_DELETION;
                case '@':
                    return MAX_TEXT;
                case 'm':
                case 'x':
                    return MARKS - 1;
                default:
                    return NONE;
            }
        }
    }
}
