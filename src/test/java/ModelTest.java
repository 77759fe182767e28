import java.lang.reflect.InvocationTargetException;
import java.lang.reflect.Method;
import java.lang.reflect.Modifier;
import java.util.ArrayList;
import java.util.Arrays;
import java.util.Comparator;
import java.util.List;

/**
 * Long runs of calls on the class and on the model, all promises mixed: each answer, each
 * exception (its very class, so that none of the machine's own passes) and each digest agree.
 */
final class ModelTest {
    private static final int RUNS = 1200;
    /** The document tells of 512 calls; a step takes at most 64 of them, digest() among them. */
    private static final int CALLS = 512 - 64;
    private static final int[] EDGES = {Integer.MIN_VALUE, Integer.MIN_VALUE + 1, -256, -101,
        -100, -99, -2, -1, 0, 1, 2, 3, 4, 8, 9, 10, 11, 16, 17, 31, 32, 33, 59, 60, 61, 99, 100,
        101, 126, 127, 128, 255, 256, 257, Integer.MAX_VALUE - 1, Integer.MAX_VALUE};
    private static final String[] COMMANDS = {"+a", "+bc", "+abcdefghijklmnopqrst", "n", "n", "n",
        "-1", "-9", "-50", "-99", "<1", "<7", "<99", "@0", "@5", "@20", "@100", "@200", "@256",
        "m0", "m1", "m2", "m3", "x0", "x1", "x2", "x3", "p", "p", "p"};
    private static final String SIGNS = "+abz;n-<@mxp0123456789!A~";

    private final Method[] calls;
    private long seed = 1;

    private ModelTest() {
        calls = Arrays.stream(GapBuffer.class.getDeclaredMethods())
            .filter(call -> Modifier.isPublic(call.getModifiers()))
            .sorted(Comparator.comparing(Method::getName)).toArray(Method[]::new);
    }

    public static void main(String[] args) throws ReflectiveOperationException {
        ModelTest test = new ModelTest();
        int wrong = 0;
        for (int run = 0; run < RUNS; run++) {
            test.seed = 7919L * run + 17;
            wrong += test.run(run % 4) ? 0 : 1;
        }
        System.out.println(RUNS + " runs of some " + CALLS + " calls, " + wrong
            + " unlike the model");
        if (wrong != 0) {
            System.exit(1);
        }
    }

    /** A kind of run: 0 mixed, 1 long texts, 2 lines, 3 many arguments out of range. */
    private boolean run(int kind) throws ReflectiveOperationException {
        GapBuffer x = new GapBuffer();
        Model model = new Model();
        List<String> log = new ArrayList<>();
        for (int i = 0; i < CALLS; ) {
            if (below(10) == 0) {
                String text = commandText();
                x.clearCommands();
                model.clearCommands();
                for (int at = 0; at < text.length(); at++) {
                    x.append(text.charAt(at));
                    model.append(text.charAt(at));
                }
                log.add("commands " + text);
                i += 1 + text.length();
            }
            Method call = pick(kind);
            Object[] arguments = arguments(call, kind, model);
            Method twin = Model.class.getDeclaredMethod(call.getName(), call.getParameterTypes());
            String got = answer(call, x, arguments);
            String due = answer(twin, model, arguments);
            log.add(call.getName() + Arrays.toString(arguments) + " " + got + ", due " + due);
            i += 2;
            if (!got.equals(due) || x.digest() != model.digest()) {
                System.out.println(String.join("\n", log));
                return false;
            }
        }
        return true;
    }

    private Method pick(int kind) {
        int draw = below(100);
        if (kind == 1 && draw < 25) {
            return named("fill");
        }
        if (kind == 2 && draw < 40) {
            return named(new String[] {"type", "up", "down", "down", "moveTo"}[below(5)]);
        }
        if (draw > 96) {
            return named("run");
        }
        return calls[below(calls.length)];
    }

    private Method named(String name) {
        for (Method call : calls) {
            if (call.getName().equals(name)) {
                return call;
            }
        }
        throw new IllegalStateException(name);
    }

    private Object[] arguments(Method call, int kind, Model model) {
        Object[] arguments = new Object[call.getParameterCount()];
        for (int i = 0; i < arguments.length; i++) {
            if (call.getParameterTypes()[i] == boolean.class) {
                arguments[i] = below(2) == 0;
            } else if (below(kind == 3 ? 3 : 15) == 0) {
                arguments[i] = EDGES[below(EDGES.length)];
            } else {
                arguments[i] = fitting(call.getName(), i, model);
            }
        }
        return arguments;
    }

    private int fitting(String name, int index, Model model) {
        switch (name) {
            case "type":
            case "fill":
            case "append":
                if (index == 1) {
                    return 1 + below(below(3) == 0 ? 100 : 12);
                }
                return below(4) == 0 ? 10 : "ab c~".charAt(below(5));
            case "erase":
            case "backspace":
                return 1 + below(below(4) == 0 ? 100 : 9);
            case "moveBy":
                return below(4) == 0 ? below(201) - 100 : below(13) - 6;
            case "setMark":
                return below(index == 0 ? 4 : 2);
            case "copy":
            case "cut":
            case "mark":
                return below(4);
            case "clip":
                return below(62);
            case "lineStart":
            case "lineLength":
                return below(model.lines() + 1);
            case "cell":
                return below(model.capacity() + 1);
            case "costOf":
                return index == 0 ? below(model.length() + 1) : 1 + below(100);
            default:
                return below(model.length() + 2);
        }
    }

    private String commandText() {
        StringBuilder text = new StringBuilder();
        int parts = 1 + below(8);
        for (int i = 0; i < parts; i++) {
            text.append(i == 0 ? "" : ";").append(COMMANDS[below(COMMANDS.length)]);
        }
        if (below(4) == 0) {
            text.insert(below(text.length() + 1), SIGNS.charAt(below(SIGNS.length())));
        }
        return text.substring(0, Math.min(60, text.length()));
    }

    private static String answer(Method call, Object on, Object[] arguments)
            throws IllegalAccessException {
        try {
            return String.valueOf(call.invoke(on, arguments));
        } catch (InvocationTargetException e) {
            return "throws " + e.getCause().getClass().getName();
        }
    }

    private int below(int bound) {
        seed = seed * 6364136223846793005L + 1442695040888963407L;
        return (int) ((seed >>> 33) % bound);
    }
}
