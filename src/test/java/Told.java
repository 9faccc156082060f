import java.lang.reflect.InvocationTargetException;
import java.lang.reflect.Method;
import java.util.HashMap;
import java.util.Map;

/** Calls by their names, and all that a board tells, as one text. */
final class Told {
    private static final Map<String, Method> FACE = new HashMap<>();

    static {
        for (Method m : Layerboard.class.getDeclaredMethods()) {
            if ((m.getModifiers() & 1) == 1) {
                FACE.put(m.getName(), m);
            }
        }
    }

    static Class<?>[] throwsOf(String name) {
        return FACE.get(name).getExceptionTypes();
    }

    static Object call(Layerboard b, String name, Object... args) {
        try {
            return FACE.get(name).invoke(b, args);
        } catch (InvocationTargetException e) {
            if (e.getCause() instanceof RuntimeException r) {
                throw r;
            }
            throw new IllegalArgumentException(name, e);
        } catch (IllegalAccessException e) {
            throw new IllegalArgumentException(name, e);
        }
    }

    private static String tried(Layerboard b, String name, Object... args) {
        try {
            return name + " " + call(b, name, args) + "\n";
        } catch (RuntimeException e) {
            return name + " " + e.getClass().getSimpleName() + "\n";
        }
    }

    /** What can be asked without a change. */
    static String board(Layerboard b) {
        StringBuilder t = new StringBuilder();
        t.append(b.shapes()).append(' ').append(b.changes()).append(' ');
        for (int i = 0; i < b.changes(); i++) {
            t.append(b.stands(i) ? 's' : '-');
        }
        for (int i = 0; i < Long.bitCount(b.shapes()); i++) {
            int shape = b.shapeAt(i);
            t.append('\n').append(shape).append(':');
            for (int what = 0; what < 14; what++) {
                t.append(b.of(shape, what)).append(' ');
            }
            for (int p = 0; p < b.of(shape, 5); p++) {
                for (int c = 0; c < b.corners(shape, p); c++) {
                    t.append(b.corner(shape, p, c, false)).append(',').append(b.corner(shape, p, c, true)).append(' ');
                }
            }
        }
        t.append('\n').append(b.caught(0, 0, 60, 60, true)).append(' ');
        for (int y = 0; y < 60; y++) {
            t.append(b.row(y)).append(' ');
        }
        return t.append(b.fault()).append('\n').toString();
    }

    /** All of it, with the pen, the tape, the out, guides, layers and what undo leaves; the board is spent then. */
    static String all(Layerboard b) {
        StringBuilder t = new StringBuilder(board(b));
        for (int i = 0; i < 240; i++) {
            t.append(tried(b, "out", i));
        }
        t.append(tried(b, "trace", 0, 0, 1)).append(tried(b, "wipe"));
        t.append(tried(b, "draw", 0, 0, 1)).append(tried(b, "lift"));
        t.append(tried(b, "guide", 0, true, 59)).append(tried(b, "snap", 0, 0)).append(tried(b, "move", 0, 0, 3, 1, false));
        for (int layer = 0; layer < 4; layer++) {
            t.append(tried(b, "box", 0, layer, 1, 50, 50, 9, 9));
        }
        t.append(board(b));
        for (int hand = 0; hand < 3; hand++) {
            t.append(tried(b, "undo", hand)).append(board(b));
        }
        return t.toString();
    }

    private Told() {
    }
}
