import java.util.ArrayList;
import java.util.Arrays;
import java.util.LinkedHashMap;
import java.util.List;
import java.util.Map;
import java.util.function.Consumer;

/**
 * A call that a board answers, and all that spoils it: values of one argument, or something done to the
 * board ahead of it. Each thing that spoils it, and each two of them, have to be refused as is due.
 */
final class Refusals {
    private static final int MIN = Integer.MIN_VALUE;
    private static final int MAX = Integer.MAX_VALUE;

    /** One thing that spoils a call; arg is -1 if it is done to the board. */
    private record Spoil(String what, int arg, Object value, Consumer<Layerboard> done, Class<?> due) {
    }

    private final String name;
    private final Object[] good;
    private final List<Object[]> goods = new ArrayList<>();
    private final List<Spoil> spoils = new ArrayList<>();
    /** What a board tells that was spoiled so and not called. */
    private final Map<String, String> untouched = new LinkedHashMap<>();

    private Refusals(String name, Object[] good) {
        this.name = name;
        this.good = good;
        goods.add(good);
    }

    static Refusals of(String name, Object... good) {
        return new Refusals(name, good);
    }

    // ---- what spoils

    Refusals bad(Class<?> due, int arg, Object... values) {
        for (Object v : values) {
            spoils.add(new Spoil(arg + ": " + v, arg, v, null, due));
        }
        return this;
    }

    Refusals range(Class<?> due, int arg, int least, int greatest) {
        return bad(due, arg, least - 1, greatest + 1, MIN, MAX);
    }

    Refusals hand() {
        return range(Due.INDEX, 0, 0, 2).answers(0, 0).answers(0, 2);
    }

    Refusals layer(int arg) {
        return range(Due.INDEX, arg, 0, 3).answers(arg, 0).answers(arg, 3);
    }

    Refusals colour(int arg) {
        return range(Due.ARGUMENT, arg, 1, 9).answers(arg, 1).answers(arg, 9);
    }

    /** Erased, a change that made a group, one that is not made yet, and numbers that no change can have. */
    Refusals shape(int arg) {
        return bad(Due.INDEX, arg, 3, 6, 20, 59, 60, -1, MIN, MAX);
    }

    Refusals board(String what, Consumer<Layerboard> done) {
        spoils.add(new Spoil(what, -1, null, done, Due.STATE));
        return this;
    }

    Refusals full() {
        return board("60 changes", b -> Due.fillTo(b, 60));
    }

    /** This value of the argument, with the others as in the good call, is answered. */
    Refusals answers(int arg, Object value) {
        Object[] args = good.clone();
        args[arg] = value;
        goods.add(args);
        return this;
    }

    Refusals answersAll(Object... args) {
        goods.add(args);
        return this;
    }

    // ---- the board that answers the good calls

    /** Shape 3 is erased; 1 follows 0; 0, 1 and 2 are group 6; 4 has two polygons, 9 has three. */
    static Layerboard fresh() {
        Layerboard b = new Layerboard();
        b.box(0, 0, 1, 10, 10, 4, 4);
        b.box(1, 0, 2, 20, 10, 4, 4);
        b.box(2, 1, 3, 30, 20, 4, 4);
        b.diamond(0, 1, 4, 40, 40, 4);
        b.join(1, 0, 0, 1);
        b.tie(2, 1, 0, 0);
        b.gather(0, 0b111);
        b.guide(1, true, 12);
        b.erase(2, 3);
        b.join(0, 1, 4, 0);
        Due.pens(b, 1, 1, 5, 1, 1, 5);
        Due.types(b, "(1,1)(5,1)(1,5)");
        b.paper(4);
        return b;
    }

    // ---- holding

    /** Each thing that is due to throw so does, and the good calls are answered. */
    void hold(Class<?> due) {
        int held = 0;
        for (Spoil s : spoils) {
            if (s.due == due) {
                held++;
                holdOne(due, s, s);
            }
        }
        Due.is(name + ": nothing to be refused by " + due.getSimpleName(), held > 0, true);
        for (Object[] args : goods) {
            Layerboard b = fresh();
            Due.answers(name + Arrays.toString(args), () -> Told.call(b, name, args));
        }
    }

    /** Of one argument: its least and its greatest value are answered, those beyond are refused. */
    void holdArgument(int arg) {
        int held = 0;
        for (Spoil s : spoils) {
            if (s.arg == arg) {
                held++;
                holdOne(s.due, s, s);
            }
        }
        for (Object[] args : goods) {
            held += args[arg].equals(good[arg]) ? 0 : 100;
            Layerboard b = fresh();
            Due.answers(name + Arrays.toString(args), () -> Told.call(b, name, args));
        }
        Due.is(name + ": values of the argument " + arg + " of both kinds", held > 100 && held % 100 > 1, true);
    }

    /** The good call is answered as the 60th change, and throws as the 61st one. */
    void holdFull() {
        for (int made = 59; made <= 60; made++) {
            Layerboard b = Due.fillTo(fresh(), made);
            if (made < 60) {
                Due.answers(name + " as change " + made, () -> Told.call(b, name, good));
            } else {
                Due.fails(name + " as change " + made, Due.STATE, () -> Told.call(b, name, good));
            }
        }
    }

    /** Of each two things that spoil the call, the one counts that the throws clauses name first. */
    void holdPairs() {
        for (int i = 0; i < spoils.size(); i++) {
            for (int j = 0; j < i; j++) {
                Spoil s = spoils.get(i);
                Spoil t = spoils.get(j);
                if (s.arg != t.arg && s.due != t.due) {
                    holdOne(rank(s.due) < rank(t.due) ? s.due : t.due, s, t);
                }
            }
        }
    }

    private int rank(Class<?> due) {
        return Arrays.asList(Told.throwsOf(name)).indexOf(due);
    }

    private void holdOne(Class<?> due, Spoil s, Spoil t) {
        Object[] args = good.clone();
        Layerboard b = fresh();
        spoil(b, args, s);
        if (s != t) {
            spoil(b, args, t);
        }
        String what = name + Arrays.toString(args) + ", " + s.what + ", " + t.what;
        Due.fails(what, due, () -> Told.call(b, name, args));
    }

    private static void spoil(Layerboard b, Object[] args, Spoil s) {
        if (s.arg >= 0) {
            args[s.arg] = s.value;
        } else {
            s.done.accept(b);
        }
    }

    /** After a call that throws the board tells all that it would have told without that call. */
    void holdNothingChanged() {
        for (Spoil s : spoils) {
            Object[] args = good.clone();
            Layerboard b = fresh();
            spoil(b, args, s);
            Due.fails(name + " " + s.what, s.due, () -> Told.call(b, name, args));
            String want = untouched.computeIfAbsent(s.arg < 0 ? s.what : "", k -> untouchedBy(s));
            Due.is(name + " that throws changes nothing, " + s.what, Told.all(b).equals(want), true);
        }
    }

    private static String untouchedBy(Spoil s) {
        Layerboard b = fresh();
        spoil(b, new Object[8], s);
        return Told.all(b);
    }
}
