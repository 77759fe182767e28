import java.util.ArrayDeque;
import java.util.Arrays;
import java.util.Deque;
import java.util.regex.Matcher;
import java.util.regex.Pattern;

/**
 * A second reading of the document, made another way than the class: a real array with a gap,
 * lines by splitting strings, commands by a regular expression, forecasts by doing the edit on
 * a copy. Each method answers as the one of the class does, or throws.
 */
final class Model {
    private static final String COMMAND =
        "(?:\\+[a-z]{1,20}|n|p|[-<][1-9][0-9]?|[mx][0-3]"
        + "|@(?:0|[1-9][0-9]?|1[0-9][0-9]|2[0-4][0-9]|25[0-6]))";
    private static final Pattern COMMANDS =
        Pattern.compile(COMMAND + "(?:;" + COMMAND + ")*");

    private int[] cells = new int[8];
    private int gap = 0;
    private int gapLength = 8;
    private int caret = 0;
    private int goal = 0;
    private boolean eager = false;
    private int[] marks = {-1, -1, -1, -1};
    private int[] sides = new int[4];
    private String clipboard = "";
    private int carried = 0;
    private int copied = 0;
    private int growths = 0;
    private int shrinks = 0;
    private String commands = "";
    private Deque<Model> saved = new ArrayDeque<>();

    Model() {
        Arrays.fill(cells, -1);
    }

    private Model twin() {
        Model twin = new Model();
        twin.become(this);
        return twin;
    }

    private void become(Model other) {
        cells = other.cells.clone();
        gap = other.gap;
        gapLength = other.gapLength;
        caret = other.caret;
        goal = other.goal;
        eager = other.eager;
        marks = other.marks.clone();
        sides = other.sides.clone();
        clipboard = other.clipboard;
        carried = other.carried;
        copied = other.copied;
        growths = other.growths;
        shrinks = other.shrinks;
    }

    private void save() {
        saved.addLast(twin());
        if (saved.size() > 6) {
            saved.removeFirst();
        }
    }

    private String text() {
        StringBuilder text = new StringBuilder();
        for (int cell : cells) {
            if (cell != -1) {
                text.append((char) cell);
            }
        }
        return text.toString();
    }

    private static void argument(boolean isMet) {
        if (!isMet) {
            throw new IllegalArgumentException();
        }
    }

    private static void state(boolean isMet) {
        if (!isMet) {
            throw new IllegalStateException();
        }
    }

    private static void index(int index, int last) {
        if (index < 0 || index > last) {
            throw new IndexOutOfBoundsException();
        }
    }

    private static boolean isByte(int code) {
        return code == 10 || code >= 32 && code <= 126;
    }

    private int carryGap(int position) {
        int steps = 0;
        while (gap > position) {
            gap--;
            cells[gap + gapLength] = cells[gap];
            steps++;
        }
        while (gap < position) {
            cells[gap] = cells[gap + gapLength];
            gap++;
            steps++;
        }
        Arrays.fill(cells, gap, gap + gapLength, -1);
        carried += steps;
        return steps;
    }

    private void resize(int capacity) {
        int[] larger = new int[capacity];
        Arrays.fill(larger, -1);
        for (int i = 0; i < cells.length; i++) {
            if (cells[i] != -1) {
                larger[i < gap ? i : i + capacity - cells.length] = cells[i];
                copied++;
            }
        }
        gapLength += capacity - cells.length;
        cells = larger;
    }

    private void insert(String bytes) {
        carryGap(caret);
        while (gapLength < bytes.length()) {
            resize(2 * cells.length);
            growths++;
        }
        for (int mark = 0; mark < 4; mark++) {
            if (marks[mark] > caret || marks[mark] == caret && sides[mark] == 1) {
                marks[mark] += bytes.length();
            }
        }
        for (int i = 0; i < bytes.length(); i++) {
            cells[gap++] = bytes.charAt(i);
            gapLength--;
        }
        caret += bytes.length();
        goal = column(caret);
    }

    private int delete(int before, int behind) {
        int from = Math.max(0, caret - before);
        int to = Math.min(length(), caret + behind);
        if (from < to) {
            carryGap(caret);
            Arrays.fill(cells, from, gap, -1);
            Arrays.fill(cells, gap + gapLength, gap + gapLength + to - caret, -1);
            gap = from;
            gapLength += to - from;
            for (int mark = 0; mark < 4; mark++) {
                if (marks[mark] >= to) {
                    marks[mark] -= to - from;
                } else if (marks[mark] > from) {
                    marks[mark] = from;
                }
            }
            caret = from;
            while (cells.length > 8 && 4 * length() <= cells.length) {
                // The gap is shortened before the cells are laid, as it is longer than half.
                int[] old = cells;
                int[] smaller = new int[old.length / 2];
                Arrays.fill(smaller, -1);
                String text = text();
                gapLength -= smaller.length;
                for (int i = 0; i < text.length(); i++) {
                    smaller[i < gap ? i : i + gapLength] = text.charAt(i);
                    copied++;
                }
                cells = smaller;
                shrinks++;
            }
        }
        goal = column(caret);
        return to - from;
    }

    private int column(int position) {
        return position - (text().substring(0, position).lastIndexOf('\n') + 1);
    }

    private String[] split() {
        return text().split("\n", -1);
    }

    private int go(int position) {
        caret = position;
        goal = column(caret);
        return eager ? carryGap(caret) : 0;
    }

    private int goVertically(int by) {
        int line = lineOf(caret) + by;
        if (line >= 0 && line < lines()) {
            caret = lineStart(line) + Math.min(goal, lineLength(line));
            if (eager) {
                carryGap(caret);
            }
        }
        return caret;
    }

    int type(int code) {
        argument(isByte(code));
        state(length() < 256);
        save();
        insert(String.valueOf((char) code));
        return length();
    }

    int fill(int code, int count) {
        argument(isByte(code));
        argument(1 <= count && count <= 100);
        state(length() + count <= 256);
        save();
        insert(String.valueOf((char) code).repeat(count));
        return length();
    }

    int erase(int count) {
        argument(1 <= count && count <= 100);
        save();
        return delete(0, count);
    }

    int backspace(int count) {
        argument(1 <= count && count <= 100);
        save();
        return delete(count, 0);
    }

    int moveTo(int position) {
        index(position, length());
        save();
        return go(position);
    }

    int moveBy(int count) {
        argument(-100 <= count && count <= 100);
        save();
        int position = caret + count;
        go(position < 0 ? 0 : position > length() ? length() : position);
        return caret;
    }

    int up() {
        save();
        return goVertically(-1);
    }

    int down() {
        save();
        return goVertically(1);
    }

    int moveInLine(boolean isEnd) {
        save();
        int line = lineOf(caret);
        go(lineStart(line) + (isEnd ? lineLength(line) : 0));
        return caret;
    }

    int setEager(boolean isEager) {
        save();
        eager = isEager;
        return isEager ? carryGap(caret) : 0;
    }

    int setMark(int mark, int side) {
        index(mark, 3);
        argument(side == 0 || side == 1);
        save();
        int previous = marks[mark];
        marks[mark] = caret;
        sides[mark] = side;
        return previous;
    }

    private String region(int mark) {
        int one = Math.min(marks[mark], caret);
        return text().substring(one, Math.max(marks[mark], caret));
    }

    private boolean hasRegion(int mark) {
        return marks[mark] != -1 && region(mark).length() <= 60;
    }

    int copy(int mark) {
        index(mark, 3);
        state(hasRegion(mark));
        save();
        clipboard = region(mark);
        return clipboard.length();
    }

    private void cutNow(int mark) {
        clipboard = region(mark);
        boolean isBefore = marks[mark] < caret;
        delete(isBefore ? clipboard.length() : 0, isBefore ? 0 : clipboard.length());
    }

    int cut(int mark) {
        index(mark, 3);
        state(hasRegion(mark));
        save();
        cutNow(mark);
        return clipboard.length();
    }

    int paste() {
        state(!clipboard.isEmpty() && length() + clipboard.length() <= 256);
        save();
        insert(clipboard);
        return length();
    }

    int mark(int mark) {
        index(mark, 3);
        return marks[mark];
    }

    int clip(int index) {
        index(index, Integer.MAX_VALUE);
        return index < clipboard.length() ? clipboard.charAt(index) : -1;
    }

    int find(int from) {
        index(from, length());
        return clipboard.isEmpty() ? -1 : text().indexOf(clipboard, from);
    }

    int length() {
        return cells.length - gapLength;
    }

    int caret() {
        return caret;
    }

    int byteAt(int position) {
        index(position, length() - 1);
        return text().charAt(position);
    }

    int lines() {
        return split().length;
    }

    int lineOf(int position) {
        index(position, length());
        return text().substring(0, position).split("\n", -1).length - 1;
    }

    int columnOf(int position) {
        index(position, length());
        return column(position);
    }

    int lineStart(int line) {
        index(line, lines() - 1);
        int start = 0;
        for (int i = 0; i < line; i++) {
            start += split()[i].length() + 1;
        }
        return start;
    }

    int lineLength(int line) {
        index(line, lines() - 1);
        return split()[line].length();
    }

    int capacity() {
        return cells.length;
    }

    int gapStart() {
        return gap;
    }

    int cell(int index) {
        index(index, cells.length - 1);
        return cells[index];
    }

    int carried() {
        return carried;
    }

    int copied() {
        return copied;
    }

    int growths() {
        return growths;
    }

    int shrinks() {
        return shrinks;
    }

    int costOf(int position, int count) {
        index(position, length());
        argument(1 <= count && count <= 100);
        if (length() + count > 256) {
            return -1;
        }
        Model trial = twin();
        trial.caret = position;
        trial.insert("a".repeat(count));
        return trial.carried + trial.copied - carried - copied;
    }

    int costOfTwo(int one, int other) {
        index(one, length());
        index(other, length());
        if (length() + 2 > 256) {
            return -1;
        }
        Model trial = twin();
        trial.caret = one;
        trial.insert("a");
        trial.caret = other < one ? other : other + 1;
        trial.insert("a");
        return trial.carried + trial.copied - carried - copied;
    }

    int room() {
        return gapLength;
    }

    int append(int code) {
        argument(33 <= code && code <= 126);
        state(commands.length() < 60);
        commands += (char) code;
        return commands.length();
    }

    int clearCommands() {
        int length = commands.length();
        commands = "";
        return length;
    }

    int firstError() {
        for (int end = 1; end <= commands.length(); end++) {
            Matcher matcher = COMMANDS.matcher(commands.substring(0, end));
            if (!matcher.matches() && !matcher.hitEnd()) {
                return end - 1;
            }
        }
        return commands.length();
    }

    int run() {
        argument(COMMANDS.matcher(commands).matches());
        save();
        int executed = 0;
        int reason = 0;
        for (String command : commands.split(";")) {
            reason = execute(command.charAt(0), command.substring(1));
            if (reason != 0) {
                break;
            }
            executed++;
        }
        commands = "";
        return reason == 0 ? 0 : 10 * executed + reason;
    }

    private int execute(char name, String rest) {
        int number = rest.isEmpty() || name == '+' ? 0 : Integer.parseInt(rest);
        String bytes = name == '+' ? rest : name == 'n' ? "\n" : name == 'p' ? clipboard : "";
        if (name == 'p' && bytes.isEmpty()) {
            return 4;
        }
        if (length() + bytes.length() > 256) {
            return 1;
        }
        if (!bytes.isEmpty()) {
            insert(bytes);
        } else if (name == '-') {
            delete(0, number);
        } else if (name == '<') {
            delete(number, 0);
        } else if (name == '@') {
            if (number > length()) {
                return 5;
            }
            go(number);
        } else if (name == 'm') {
            marks[number] = caret;
            sides[number] = 1;
        } else if (marks[number] == -1) {
            return 2;
        } else if (!hasRegion(number)) {
            return 3;
        } else {
            cutNow(number);
        }
        return 0;
    }

    int undo() {
        state(!saved.isEmpty());
        become(saved.removeLast());
        return saved.size();
    }

    int savedStates() {
        return saved.size();
    }

    long digest() {
        long hash = 8134;
        int[] first = {length(), caret, cells.length, gap, carried, copied, growths, shrinks,
            lines(), column(caret), eager ? 1 : 0};
        for (int value : first) {
            hash = 31 * hash + value;
        }
        for (int position : marks) {
            hash = 31 * hash + position;
        }
        for (char code : text().toCharArray()) {
            hash = 31 * hash + code;
        }
        hash = 31 * hash + clipboard.length();
        for (char code : clipboard.toCharArray()) {
            hash = 31 * hash + code;
        }
        return hash;
    }
}
