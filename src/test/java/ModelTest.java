import java.lang.reflect.InvocationTargetException;
import java.lang.reflect.Method;
import java.util.ArrayList;
import java.util.Arrays;
import java.util.HashMap;
import java.util.List;
import java.util.Map;
import java.util.Random;

/** Runs of calls by fixed seeds on Layerboard and on the Model; each answer must be the same. */
public final class ModelTest {
    private static final Map<String, Method> REAL = methodsOf(Layerboard.class);
    private static final Map<String, Method> MODEL = methodsOf(Model.class);
    private static final int[][] STEPS = {{1, 0}, {0, 1}, {1, 1}, {1, -1}, {2, 1}, {1, 2}, {2, -1}, {1, -2}};

    private static int wrong = 0;
    private static long calls = 0;
    private static final Map<String, int[]> seenAnswers = new HashMap<>();

    private final Random random;
    private final int flavour;
    private final Layerboard real = new Layerboard();
    private final Model model = new Model();
    private final List<String> told = new ArrayList<>();

    private ModelTest(long seed) {
        random = new Random(seed);
        flavour = (int) (seed % 6);
    }

    private static Map<String, Method> methodsOf(Class<?> c) {
        Map<String, Method> all = new HashMap<>();
        for (Method m : c.getDeclaredMethods()) {
            all.put(m.getName() + m.getParameterCount(), m);
        }
        return all;
    }

    private static Object run(Map<String, Method> methods, Object target, String name, Object[] args) {
        try {
            return methods.get(name + args.length).invoke(target, args);
        } catch (InvocationTargetException e) {
            return "throws " + e.getCause().getClass().getName();
        } catch (ReflectiveOperationException e) {
            throw new IllegalStateException(name, e);
        }
    }

    /** Makes a call on both; answers it, or null if it threw. */
    private Object call(String name, Object... args) {
        Object got = run(REAL, real, name, args);
        Object due = run(MODEL, model, name, args);
        calls++;
        told.add(name + Arrays.toString(args) + " = " + due);
        seenAnswers.computeIfAbsent(name, n -> new int[2])[due instanceof String ? 1 : 0]++;
        if (!got.equals(due)) {
            wrong++;
            System.out.println("run:");
            for (String t : told) {
                System.out.println("  " + t);
            }
            System.out.println("  but answered " + got);
        }
        return due instanceof String ? null : due;
    }

    private int n(int bound) {
        return random.nextInt(bound);
    }

    private int oddly(int good, int least, int greatest) {
        if (n(60) > 0) {
            return good;
        }
        int[] bad = {least - 1, greatest + 1, least, greatest, Integer.MIN_VALUE, Integer.MAX_VALUE, -1};
        return bad[n(bad.length)];
    }

    private int hand() {
        return oddly(n(3), 0, 2);
    }

    private int layer() {
        return oddly(flavour == 1 ? 0 : n(flavour == 2 ? 2 : 4), 0, 3);
    }

    private int colour() {
        return oddly(n(flavour == 5 ? 3 : 9) + 1, 1, 9);
    }

    private int shape() {
        List<Integer> all = new ArrayList<>(model.shapes.keySet());
        return all.isEmpty() || n(60) == 0 ? oddly(n(62) - 1, 0, 59) : all.get(n(all.size()));
    }

    /** A shape that has a leader, or a group, if there is one. */
    private int shapeThat(int what) {
        for (int i = 0; i < 20; i++) {
            int k = shape();
            if (model.shapes.containsKey(k) && model.of(k, what) != Model.NONE) {
                return k;
            }
        }
        return shape();
    }

    private void pens() {
        // runs in a corner of the board, with short edges, come to the ends of edges and to the board's own
        int least = flavour == 0 ? 52 * n(2) : 0;
        int most = flavour == 0 ? least + 8 : 60;
        int x = least + n(most - least + 1);
        int y = least + n(most - least + 1);
        List<int[]> points = new ArrayList<>(List.of(new int[] {x, y}));
        int many = 2 + n(6);
        for (int i = 0; i < many; i++) {
            int[] s = STEPS[n(STEPS.length)];
            int by = (n(flavour == 0 ? 3 : 20) + 1) * (n(2) * 2 - 1);
            int nx = x + s[0] * by;
            int ny = y + s[1] * by;
            if (nx >= least && nx <= most && ny >= least && ny <= most) {
                x = nx;
                y = ny;
                points.add(new int[] {x, y});
            }
        }
        close(points, least, most);
        if (n(4) > 0) {
            call("lift");
        }
        for (int[] p : points) {
            call("pen", oddly(p[0], 0, 60), oddly(p[1], 0, 60));
        }
    }

    /** Looks for a point, or two, with which the row closes by edges that may be. */
    private void close(List<int[]> points, int least, int most) {
        int[] a = points.get(points.size() - 1);
        int[] b = points.get(0);
        for (int i = 0; i < 400; i++) {
            int[] s = STEPS[n(STEPS.length)];
            int by = flavour == 0 ? n(9) - 4 : n(81) - 40;
            int x = a[0] + s[0] * by;
            int y = a[1] + s[1] * by;
            if (x >= least && x <= most && y >= least && y <= most && goes(x - b[0], y - b[1]) && by != 0) {
                points.add(new int[] {x, y});
                return;
            }
        }
    }

    private static boolean goes(int dx, int dy) {
        int x = Math.abs(dx);
        int y = Math.abs(dy);
        return x + y > 0 && (x == 0 || y == 0 || x == y || x == 2 * y || y == 2 * x);
    }

    private void types() {
        if (n(8) > 0) {
            call("wipe");
        }
        StringBuilder text = new StringBuilder();
        int x = n(50);
        int y = n(50);
        int wide = n(10) + 1;
        text.append("(" + x + "," + y + ")(" + (x + wide) + "," + y + ")");
        int many = n(2) == 0 ? 1 : 1 + n(7);
        for (int i = 0; i < many; i++) {
            text.append("(" + (n(4) > 0 ? x : n(70)) + "," + (y + (n(6) > 0 ? wide + i % 2 * wide : n(12))) + ")");
        }
        if (n(5) == 0) {
            String signs = "(),0123456789 ;";
            text.setCharAt(n(text.length()), signs.charAt(n(signs.length())));
        }
        int length = n(8) == 0 ? n(text.length()) : text.length();
        for (int i = 0; i < length; i++) {
            call("type", oddly(text.charAt(i), 32, 126));
            if (n(4) == 0) {
                call("fault");
            }
        }
        call("fault");
        if (n(3) > 0) {
            call("trace", hand(), layer(), colour());
        }
    }

    private void change() {
        switch (n(24)) {
            case 0 -> call("draw", hand(), layer(), colour());
            case 1 -> call("box", hand(), layer(), colour(), oddly(n(50), 0, 60), oddly(n(50), 0, 60),
                    oddly(n(flavour == 3 ? 3 : 20) + 1, 1, 60), oddly(n(20) + 1, 1, 60));
            case 2 -> call("diamond", hand(), layer(), colour(), oddly(10 + n(40), 0, 60), oddly(10 + n(40), 0, 60),
                    oddly(n(12) + 1, 1, 30));
            case 3 -> {
                if (flavour == 3) {
                    call("box", hand(), layer(), colour(), n(57), n(57), 1 + n(4), 1 + n(4));
                } else {
                    call("sample", hand(), oddly(n(65536), 0, 65535), oddly(1 + n(3), 1, 6));
                }
            }
            case 4 -> call("erase", hand(), shape());
            case 5, 6 -> call("move", hand(), shape(), oddly(n(21) - 10, -60, 60), oddly(n(21) - 10, -60, 60), n(2) == 0);
            case 7 -> call("turn", hand(), shape(), oddly(n(3) + 1, 1, 3));
            case 8 -> call("mirror", hand(), shape(), n(2) == 0);
            case 9 -> call("grow", hand(), shape(), oddly(n(3) + 2, 2, 4));
            case 10 -> call("paint", hand(), shape(), colour());
            case 11 -> call("toLayer", hand(), shape(), layer());
            case 12 -> call("show", hand(), layer(), n(3) > 0);
            case 13, 14 -> call("tie", hand(), shape(), shape(), oddly(n(3), 0, 2));
            case 15 -> call("untie", hand(), shapeThat(2));
            case 16 -> call("gather", hand(), set());
            case 17 -> call("scatter", hand(), shapeThat(4));
            case 18 -> call("spread", hand(), shapeThat(4));
            case 19 -> call("guide", hand(), n(2) == 0, oddly(n(61), 0, 60));
            case 20, 21 -> call("snap", hand(), shape());
            case 22 -> call("join", hand(), oddly(n(4), 0, 3), shape(), shape());
            default -> call("raise", hand(), shape(), oddly(n(4), 0, 3));
        }
    }

    private long set() {
        long set = 0;
        int many = n(4) + 1;
        for (int i = 0; i < many; i++) {
            int s = shape();
            set |= s >= 0 && s < 64 ? 1L << s : 0;
        }
        return n(40) == 0 ? random.nextLong() : set;
    }

    private void ask() {
        switch (n(20)) {
            case 0 -> call("ring", shape(), shape(), n(6) - 2);
            case 1 -> call("shapeAt", n(10) - 1);
            case 2, 3, 4 -> call("of", shape(), oddly(n(14), 0, 13));
            case 5 -> call("corners", shape(), n(6) - 1);
            case 6 -> call("corner", shape(), oddly(n(2), 0, 3), n(10) - 1, n(2) == 0);
            case 7 -> call("holds", shape(), oddly(n(121), 0, 120), oddly(n(121), 0, 120));
            case 8 -> call("hit", oddly(n(121), 0, 120), oddly(n(121), 0, 120));
            case 9 -> call("caught", oddly(n(40), 0, 60), oddly(n(40), 0, 60), oddly(n(30) + 1, 1, 60),
                    oddly(n(30) + 1, 1, 60), n(2) == 0);
            case 10 -> call("area", shape(), n(2) == 0);
            case 11, 12 -> call("areaOf", oddly(n(4), 0, 3), shape(), shape(), n(2) == 0);
            case 13 -> call("meetings", shape(), shape());
            case 14 -> call("meeting", shape(), shape(), n(8) - 1, oddly(n(4), 0, 3));
            case 15 -> call("way", shape(), shape(), n(2) == 0);
            case 16 -> call("cell", oddly(n(60), 0, 59), oddly(n(60), 0, 59));
            case 17 -> call("row", oddly(n(60), 0, 59));
            case 18 -> call("stands", n(62) - 1);
            default -> {
                call("paper", shape());
                call("out", n(40) - 1);
            }
        }
    }

    /** All that can be told of the shapes, so that nothing that went wrong stays unseen. */
    private void tellAll() {
        call("shapes");
        call("changes");
        for (int i = 0; i < model.shapes.size(); i++) {
            int shape = (Integer) call("shapeAt", i);
            for (int what = 0; what < 14; what++) {
                call("of", shape, what);
            }
            for (int p = 0; p < model.shapes.get(shape).polygons.size(); p++) {
                int many = (Integer) call("corners", shape, p);
                for (int c = 0; c < many; c++) {
                    call("corner", shape, p, c, false);
                    call("corner", shape, p, c, true);
                }
            }
        }
        for (int i = 0; i < model.journal.size(); i++) {
            call("stands", i);
        }
    }

    /** Some runs begin with what lots seldom bring: a group that can be spread, walls for ways, many corners. */
    private void prepare() {
        if (flavour == 3) {
            for (int i = 0; i < 6; i++) {
                call("box", n(3), layer(), colour(), n(57), n(50), 1 + n(4), 1 + n(10));
            }
            call("gather", 0, (long) n(64));
            for (int i = 0; i < 4; i++) {
                call("tie", n(3), n(6), n(6), n(3));
                call("spread", n(3), n(6));
                call("move", n(3), n(6), n(9) - 4, n(9) - 4, n(2) == 0);
            }
        } else if (flavour == 4) {
            int many = 10 + n(20);
            for (int i = 0; i < many; i++) {
                if (n(2) == 0) {
                    call("box", n(3), n(4), colour(), n(30), n(60), 1 + n(30), 1);
                } else {
                    call("box", n(3), n(4), colour(), n(60), n(30), 1, 1 + n(30));
                }
            }
            for (int i = 0; i < 8; i++) {
                call("way", n(many), n(many), n(2) == 0);
            }
        } else if (flavour == 2 || flavour == 0) {
            for (int i = 0; i < 8; i++) {
                pens();
                call("draw", n(3), layer(), colour());
            }
            for (int i = 0; i < 10; i++) {
                call("join", n(3), n(4), shape(), shape());
            }
        }
    }

    private void runOne() {
        prepare();
        int rounds = 60 + n(120);
        for (int i = 0; i < rounds && wrong == 0; i++) {
            int lot = n(100);
            if (lot < 6) {
                pens();
            } else if (lot < 8) {
                types();
            } else if (lot < 40) {
                change();
            } else if (lot < 45) {
                call("undo", hand());
            } else if (lot < 46 && flavour == 5) {
                call("field", oddly(n(60), 0, 59), oddly(n(60), 0, 59));
            } else if (lot < 55 && flavour == 1) {
                call("raise", hand(), shape(), n(2));
            } else {
                ask();
            }
        }
        tellAll();
        if (!real.isSound()) {
            wrong++;
            System.out.println("not sound: " + told);
        }
    }

    /** One shape goes up and down between two others until the layer is numbered anew. */
    private static void runKeys() {
        for (int start = 0; start < 8; start++) {
            ModelTest t = new ModelTest(start);
            for (int i = 0; i < 4; i++) {
                t.call("box", 0, 1, 1 + i, i, i, 3, 3);
            }
            for (int i = 0; i < 60; i++) {
                int[] order = {start % 4, (start + 1) % 4, (start + 3) % 4, 2};
                t.call("raise", i % 3, order[i % (2 + start % 3)], (i + start / 2) % 2 == 0 ? 1 : i % 4);
                t.tellAll();
            }
        }
    }

    public static void main(String[] args) {
        int first = args.length > 1 ? Integer.parseInt(args[1]) : 0;
        int runs = args.length > 2 ? Integer.parseInt(args[2]) : 300;
        runKeys();
        for (int i = 0; i < runs && wrong == 0; i++) {
            new ModelTest(first + i).runOne();
        }
        if (args.length > 3) {
            seenAnswers.forEach((name, c) -> System.out.println(name + ": answered " + c[0] + ", threw " + c[1]));
        }
        System.out.println("ModelTest: " + calls + " calls, " + Model.renumbered + " layers numbered anew");
        System.exit(wrong == 0 ? 0 : 1);
    }
}
