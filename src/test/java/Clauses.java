import java.util.LinkedHashMap;
import java.util.Map;

/**
 * Each method that throws: a good call on the board of Refusals, the least and the greatest values that are
 * answered, and all that spoils it.
 */
final class Clauses {
    private static final Class<?> INDEX = Due.INDEX;
    private static final Class<?> ARGUMENT = Due.ARGUMENT;
    private static final Class<?> STATE = Due.STATE;
    private static final Map<String, Refusals> ALL = new LinkedHashMap<>();

    static {
        addDrawing();
        addChanging();
        addTying();
        addGathering();
        addAsking();
        addPlaces();
    }

    private static Refusals add(String name, Object... good) {
        Refusals r = Refusals.of(name, good);
        ALL.put(name, r);
        return r;
    }

    private static void addDrawing() {
        add("pen", 0, 0).range(ARGUMENT, 0, 0, 60).range(ARGUMENT, 1, 0, 60).answers(0, 60).answers(1, 60)
                .board("8 points", b -> Due.pens(b, 1, 1, 2, 2, 3, 3, 4, 4, 5, 5, 6, 6, 7, 7, 8, 8));
        add("draw", 0, 0, 1).hand().layer(1).colour(2).full().board("no points", Layerboard::lift)
                .board("two points", b -> Due.pens(b, 1, 1, 5, 1))
                .board("an edge that may not be", b -> Due.pens(b, 0, 0, 3, 1, 0, 1))
                .board("a last edge that may not be", b -> Due.pens(b, 0, 0, 3, 0, 3, 1))
                .board("a corner twice in a row", b -> Due.pens(b, 0, 0, 3, 0, 3, 0, 3, 3))
                .board("the first corner as the last one", b -> Due.pens(b, 0, 0, 3, 0, 3, 3, 0, 0));
        add("trace", 0, 0, 1).hand().layer(1).colour(2).full().board("no signs", Layerboard::wipe)
                .board("two corners", b -> Due.types(b, "(1,1)(5,1)"))
                .board("nine corners", b -> Due.types(b, "(1,1)(5,1)(1,5)(5,1)(1,1)(5,1)(1,5)(5,1)(1,5)"))
                .board("a sign more", b -> b.type(';'))
                .board("61", b -> Due.types(b, "(1,1)(61,1)(1,61)"))
                .board("an edge that may not be", b -> Due.types(b, "(0,0)(3,1)(0,1)"))
                .board("a last edge that may not be", b -> Due.types(b, "(0,0)(3,0)(3,1)"))
                .board("a corner twice in a row", b -> Due.types(b, "(0,0)(0,0)(3,3)"));
        add("box", 0, 0, 1, 5, 5, 3, 3).hand().layer(1).colour(2).full()
                .bad(ARGUMENT, 3, -1, 58, 60, 61, Integer.MIN_VALUE, Integer.MAX_VALUE)
                .bad(ARGUMENT, 4, -1, 58, 60, 61, Integer.MIN_VALUE, Integer.MAX_VALUE)
                .bad(ARGUMENT, 5, 0, -1, 56, 60, 61, Integer.MIN_VALUE, Integer.MAX_VALUE)
                .bad(ARGUMENT, 6, 0, -1, 56, 60, 61, Integer.MIN_VALUE, Integer.MAX_VALUE)
                .answers(3, 0).answers(3, 57).answers(4, 0).answers(4, 57).answers(5, 1).answers(5, 55)
                .answers(6, 1).answers(6, 55).answersAll(0, 0, 1, 0, 0, 60, 60);
        add("diamond", 0, 0, 1, 10, 10, 3).hand().layer(1).colour(2).full()
                .bad(ARGUMENT, 3, 2, 58, 60, 61, -1, Integer.MIN_VALUE, Integer.MAX_VALUE)
                .bad(ARGUMENT, 4, 2, 58, 60, 61, -1, Integer.MIN_VALUE, Integer.MAX_VALUE)
                .bad(ARGUMENT, 5, 0, -1, 11, 30, 31, Integer.MIN_VALUE, Integer.MAX_VALUE)
                .answers(3, 3).answers(3, 57).answers(4, 3).answers(4, 57).answers(5, 1).answers(5, 10)
                .answersAll(0, 0, 1, 30, 30, 30);
        add("sample", 0, 0, 6).hand().range(ARGUMENT, 1, 0, 65535).answers(1, 65535).range(ARGUMENT, 2, 1, 6).answers(2, 1)
                .full().board("55 changes", b -> Due.fillTo(b, 55));
        add("erase", 0, 0).hand().shape(1).full();
    }

    private static void addChanging() {
        add("move", 0, 0, 1, 1, true).hand().shape(1).range(ARGUMENT, 2, -60, 60).range(ARGUMENT, 3, -60, 60).full()
                .bad(STATE, 2, -60, -11, 60).bad(STATE, 3, -60, -11, 60)
                .answers(2, -10).answers(3, -10).answers(2, 36).answers(3, 46).answersAll(0, 0, 0, 0, false);
        add("turn", 0, 4, 1).hand().shape(1).range(ARGUMENT, 2, 1, 3).answers(2, 3).full()
                .board("too high up", b -> b.move(0, 4, 0, 46, true))
                .board("just too high up", b -> b.move(0, 4, 0, 37, true));
        add("mirror", 0, 0, true).hand().shape(1).full();
        add("grow", 0, 4, 2).hand().shape(1).range(ARGUMENT, 2, 2, 4).full().bad(STATE, 2, 4).answers(2, 3)
                .answersAll(0, 0, 4).board("too far to the right", b -> b.move(0, 4, 23, 0, true))
                .board("too high up", b -> b.move(0, 4, 0, 43, true));
        add("paint", 0, 0, 5).hand().shape(1).colour(2).full();
        add("raise", 0, 0, 0).hand().shape(1).range(ARGUMENT, 2, 0, 3).answers(2, 1).answers(2, 2).answers(2, 3).full();
        add("toLayer", 0, 0, 1).hand().shape(1).layer(2).full();
        add("show", 0, 0, true).hand().layer(1).full();
    }

    private static void addTying() {
        add("tie", 0, 2, 0, 0).hand().shape(1).shape(2).range(ARGUMENT, 3, 0, 2).answers(3, 1).answers(3, 2).full()
                .bad(STATE, 2, 2).board("a ring of two", b -> b.tie(0, 0, 2, 0)).board("a ring of three", b -> {
                    b.tie(0, 4, 2, 0);
                    b.tie(0, 0, 4, 0);
                });
        add("untie", 0, 1).hand().shape(1).full().bad(STATE, 1, 0, 2).board("erased leader", b -> b.erase(0, 0));
        add("ring", 0, 1, 0).shape(0).shape(1).bad(INDEX, 2, 2, 3, -2, Integer.MIN_VALUE, Integer.MAX_VALUE)
                .answers(2, 1).answers(2, -1).answersAll(0, 2, -1).answersAll(0, 0, 0);
        add("undo", 0).hand().board("none stands", b -> {
            for (int i = 0; i < 4; i++) {
                b.undo(0);
            }
        });
    }

    private static void addGathering() {
        add("gather", 0, 0b10001L).hand().answers(1, 0b10111L).answers(1, 0b1000010000L).full()
                .bad(STATE, 1, 0L, 1L, 0b10000L, 0b011L, 0b111L)
                .bad(INDEX, 1, 0b11001L, 0b1010001L, 1L << 10 | 0b10001L, 1L << 59 | 0b10001L, 1L << 60 | 0b10001L,
                        1L << 63 | 0b10001L, 1L << 63, 1L << 3, -1L);
        add("scatter", 0, 0).hand().shape(1).full().bad(STATE, 1, 4).board("scattered", b -> b.scatter(0, 0));
        add("spread", 0, 0).hand().shape(1).full().bad(STATE, 1, 4).board("two alone", b -> b.erase(0, 2))
                .board("gaps of -1, together", b -> {
                    b.grow(0, 1, 4);
                    b.move(0, 2, -1, 0, true);
                });
        add("guide", 0, true, 30).hand().range(ARGUMENT, 2, 0, 60).answers(2, 0).answers(2, 60).full().bad(STATE, 2, 12)
                .answersAll(0, false, 12).board("8 guides", b -> {
                    for (int i = 0; i < 7; i++) {
                        b.guide(0, false, i);
                    }
                });
        add("snap", 0, 0).hand().shape(1).full().board("what follows would leave", b -> {
            b.tie(0, b.box(0, 0, 1, 56, 0, 4, 4), 0, 0);
        });
        add("join", 0, 0, 4, 1).hand().range(ARGUMENT, 1, 0, 3).answers(1, 1).answers(1, 2).answers(1, 3).shape(2).shape(3)
                .answers(3, 4).answersAll(0, 0, 9, 1).full().bad(STATE, 3, 9);
    }

    private static void addAsking() {
        add("shapeAt", 0).range(INDEX, 0, 0, 4).answers(0, 4);
        add("of", 0, 0).shape(0).range(ARGUMENT, 1, 0, 13).answers(1, 13);
        add("corners", 4, 0).shape(0).range(INDEX, 1, 0, 1).answers(1, 1);
        add("corner", 4, 0, 0, true).shape(0).range(INDEX, 1, 0, 1).range(INDEX, 2, 0, 3).answers(1, 1).answers(2, 3);
        add("holds", 0, 0, 0).shape(0).range(ARGUMENT, 1, 0, 120).range(ARGUMENT, 2, 0, 120).answers(1, 120).answers(2, 120);
        add("hit", 0, 0).range(ARGUMENT, 0, 0, 120).range(ARGUMENT, 1, 0, 120).answers(0, 120).answers(1, 120);
        add("caught", 5, 5, 3, 3, false).bad(ARGUMENT, 0, -1, 58, 60, 61, Integer.MIN_VALUE, Integer.MAX_VALUE)
                .bad(ARGUMENT, 1, -1, 58, 60, 61, Integer.MIN_VALUE, Integer.MAX_VALUE)
                .bad(ARGUMENT, 2, 0, -1, 56, 60, 61, Integer.MIN_VALUE, Integer.MAX_VALUE)
                .bad(ARGUMENT, 3, 0, -1, 56, 60, 61, Integer.MIN_VALUE, Integer.MAX_VALUE)
                .answers(0, 0).answers(0, 57).answers(1, 0).answers(1, 57).answers(2, 1).answers(2, 55)
                .answers(3, 1).answers(3, 55).answersAll(0, 0, 60, 60, true);
        add("area", 0, false).shape(0);
        add("areaOf", 0, 0, 1, false).range(ARGUMENT, 0, 0, 3).answers(0, 1).answers(0, 2).answers(0, 3).shape(1).shape(2);
        add("meetings", 0, 1).shape(0).shape(1).answersAll(0, 0);
        add("meeting", 0, 4, 0, 0).shape(0).shape(1).range(INDEX, 2, 0, 3).answers(2, 3)
                .range(ARGUMENT, 3, 0, 3).answers(3, 3);
        add("way", 0, 1, true).shape(0).shape(1).answersAll(0, 0, false);
    }

    private static void addPlaces() {
        add("cell", 0, 0).range(INDEX, 0, 0, 59).range(INDEX, 1, 0, 59).answers(0, 59).answers(1, 59);
        add("row", 0).range(INDEX, 0, 0, 59).answers(0, 59);
        add("field", 0, 0).range(INDEX, 0, 0, 59).range(INDEX, 1, 0, 59).answers(0, 59).answers(1, 59);
        add("stands", 0).range(INDEX, 0, 0, 9).answers(0, 9);
        add("type", 40).range(ARGUMENT, 0, 32, 126).answers(0, 32).answers(0, 126)
                .board("80 signs", b -> Due.types(b, "0".repeat(80)));
        add("paper", 0).shape(0);
        add("out", 0).range(INDEX, 0, 0, 56).answers(0, 56);
    }

    static Iterable<Refusals> all() {
        return ALL.values();
    }

    static void hold(String name, Class<?> due) {
        ALL.get(name).hold(due);
    }

    static void holdArgument(String name, int arg) {
        ALL.get(name).holdArgument(arg);
    }

    static void holdFull(String name) {
        ALL.get(name).holdFull();
    }

    private Clauses() {
    }
}
