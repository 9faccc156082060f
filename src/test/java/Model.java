import java.util.ArrayList;
import java.util.Comparator;
import java.util.HashMap;
import java.util.LinkedHashSet;
import java.util.List;
import java.util.Map;
import java.util.PriorityQueue;
import java.util.Set;
import java.util.TreeMap;
import java.util.TreeSet;
import java.util.function.IntPredicate;
import java.util.regex.Matcher;
import java.util.regex.Pattern;

/**
 * The document once more, in the slowest and most literal form, to hold Layerboard against. It shares no
 * code and, where it can, no method with it: areas by strips that stand upright, in fractions; tables as
 * laws that are worked out for each set; groups as sets of members; changes as functions.
 */
final class Model {
    static final int NONE = -1;

    /** A fraction with the least positive denominator. */
    record Q(long n, long d) implements Comparable<Q> {
        static Q of(long n, long d) {
            if (d < 0) {
                return of(-n, -d);
            }
            long a = Math.abs(n);
            long b = d;
            while (b != 0) {
                long r = a % b;
                a = b;
                b = r;
            }
            return new Q(n / a, d / a);
        }

        static Q of(long n) {
            return new Q(n, 1);
        }

        Q plus(Q o) {
            return of(n * o.d + o.n * d, d * o.d);
        }

        Q minus(Q o) {
            return of(n * o.d - o.n * d, d * o.d);
        }

        Q times(Q o) {
            return of(n * o.n, d * o.d);
        }

        Q over(Q o) {
            return of(n * o.d, d * o.n);
        }

        @Override
        public int compareTo(Q o) {
            return Long.compare(n * o.d, o.n * d);
        }

        long floor() {
            return Math.floorDiv(n, d);
        }
    }

    record P(int x, int y) {
    }

    /** What a shape holds: one of its polygons, or two such laws joined. */
    interface Law {
        boolean isHeld(IntPredicate byPolygon);

        Law pushed(int by);
    }

    record Leaf(int polygon) implements Law {
        @Override
        public boolean isHeld(IntPredicate byPolygon) {
            return byPolygon.test(polygon);
        }

        @Override
        public Law pushed(int by) {
            return new Leaf(polygon + by);
        }
    }

    record Both(int how, Law one, Law other) implements Law {
        @Override
        public boolean isHeld(IntPredicate byPolygon) {
            boolean a = one.isHeld(byPolygon);
            boolean b = other.isHeld(byPolygon);
            return switch (how) {
                case 0 -> a | b;
                case 1 -> a & b;
                case 2 -> a & !b;
                default -> a ^ b;
            };
        }

        @Override
        public Law pushed(int by) {
            return new Both(how, one.pushed(by), other.pushed(by));
        }
    }

    static final class S {
        List<List<P>> polygons = new ArrayList<>();
        Law law = new Leaf(0);
        int layer;
        int colour;
        int hand;
        Q key;
        int leader = NONE;
        int kind = NONE;

        int min(boolean isY) {
            return polygons.stream().flatMap(List::stream).mapToInt(p -> isY ? p.y : p.x).min().getAsInt();
        }

        int max(boolean isY) {
            return polygons.stream().flatMap(List::stream).mapToInt(p -> isY ? p.y : p.x).max().getAsInt();
        }

        boolean holds(Q x, Q y) {
            return law.isHeld(k -> polygonHolds(polygons.get(k), x, y));
        }

        interface Mapping {
            P to(P p);
        }

        List<List<P>> mapped(Mapping m) {
            List<List<P>> all = new ArrayList<>();
            for (List<P> p : polygons) {
                List<P> now = new ArrayList<>();
                for (P c : p) {
                    now.add(m.to(c));
                }
                all.add(now);
            }
            return all;
        }
    }

    interface Action {
        int run(int number);
    }

    static final class Made {
        int hand;
        Action action;
        boolean stands = true;
    }

    // the board
    TreeMap<Integer, S> shapes = new TreeMap<>();
    /** Members: k for a shape, 1000 + g for a group. */
    TreeMap<Integer, Set<Integer>> groups = new TreeMap<>();
    TreeSet<Integer> uprights = new TreeSet<>();
    TreeSet<Integer> levels = new TreeSet<>();
    boolean[] visible = {true, true, true, true};
    // beside the board
    final List<Made> journal = new ArrayList<>();
    List<P> pen = new ArrayList<>();
    StringBuilder tape = new StringBuilder();
    String out = "";

    // ---- helpers

    static void index(boolean good) {
        if (!good) {
            throw new IndexOutOfBoundsException();
        }
    }

    static void argument(boolean good) {
        if (!good) {
            throw new IllegalArgumentException();
        }
    }

    static void state(boolean good) {
        if (!good) {
            throw new IllegalStateException();
        }
    }

    static boolean in(long v, long a, long b) {
        return v >= a && v <= b;
    }

    S need(int shape) {
        index(shapes.containsKey(shape));
        return shapes.get(shape);
    }

    void hand(int hand) {
        index(in(hand, 0, 2));
    }

    static boolean polygonHolds(List<P> p, Q x, Q y) {
        int crossed = 0;
        for (int i = 0; i < p.size(); i++) {
            P a = p.get(i);
            P b = p.get((i + 1) % p.size());
            boolean aAbove = Q.of(a.y).compareTo(y) > 0;
            boolean bAbove = Q.of(b.y).compareTo(y) > 0;
            if (aAbove != bAbove) {
                Q at = Q.of(a.x).plus(y.minus(Q.of(a.y)).times(Q.of(b.x - a.x, b.y - a.y)));
                if (at.compareTo(x) > 0) {
                    crossed++;
                }
            }
        }
        return crossed % 2 == 1;
    }

    static boolean proper(List<P> p) {
        if (!in(p.size(), 3, 8)) {
            return false;
        }
        for (int i = 0; i < p.size(); i++) {
            P a = p.get(i);
            P b = p.get((i + 1) % p.size());
            int dx = Math.abs(a.x - b.x);
            int dy = Math.abs(a.y - b.y);
            boolean straight = (dx == 0) ^ (dy == 0);
            boolean leaning = dx > 0 && dy > 0 && (dx == dy || dx == 2 * dy || dy == 2 * dx);
            if (!straight && !leaning) {
                return false;
            }
        }
        return true;
    }

    void rebuild() {
        shapes = new TreeMap<>();
        groups = new TreeMap<>();
        uprights = new TreeSet<>();
        levels = new TreeSet<>();
        visible = new boolean[] {true, true, true, true};
        for (int i = 0; i < journal.size(); i++) {
            if (journal.get(i).stands) {
                try {
                    journal.get(i).action.run(i);
                } catch (IndexOutOfBoundsException | IllegalArgumentException | IllegalStateException e) {
                    // a change that would throw does nothing; actions throw before they change anything
                }
            }
        }
    }

    int make(int hand, Action action) {
        hand(hand);
        int answer = action.run(journal.size());
        if (journal.size() >= 60) {
            rebuild();
            throw new IllegalStateException();
        }
        Made m = new Made();
        m.hand = hand;
        m.action = action;
        journal.add(m);
        return answer;
    }

    List<Integer> order() {
        List<Integer> all = new ArrayList<>(shapes.keySet());
        all.sort(Comparator.comparing((Integer k) -> shapes.get(k).layer).thenComparing(k -> shapes.get(k).key));
        return all;
    }

    List<Integer> layerOrder(int layer) {
        List<Integer> all = order();
        all.removeIf(k -> shapes.get(k).layer != layer);
        return all;
    }

    void toTop(int shape, int layer) {
        Q greatest = Q.of(0);
        for (int k : layerOrder(layer)) {
            if (k != shape && shapes.get(k).key.compareTo(greatest) > 0) {
                greatest = shapes.get(k).key;
            }
        }
        shapes.get(shape).layer = layer;
        shapes.get(shape).key = Q.of(greatest.floor() + 1);
    }

    int addShape(int number, int hand, int layer, int colour, List<List<P>> polygons, Law law) {
        S s = new S();
        s.polygons = polygons;
        s.law = law;
        s.hand = hand;
        s.colour = colour;
        s.layer = -7;
        s.key = Q.of(0);
        shapes.put(number, s);
        toTop(number, layer);
        return number;
    }

    int polygon(int hand, int layer, int colour, List<P> points) {
        hand(hand);
        index(in(layer, 0, 3));
        argument(in(colour, 1, 9));
        state(proper(points));
        List<P> copy = new ArrayList<>(points);
        return make(hand, n -> addShape(n, hand, layer, colour, new ArrayList<>(List.of(copy)), new Leaf(0)));
    }

    // ---- drawing

    int pen(int x, int y) {
        argument(in(x, 0, 60) && in(y, 0, 60));
        state(pen.size() < 8);
        pen.add(new P(x, y));
        return pen.size();
    }

    int lift() {
        int n = pen.size();
        pen = new ArrayList<>();
        return n;
    }

    int draw(int hand, int layer, int colour) {
        int n = polygon(hand, layer, colour, pen);
        pen = new ArrayList<>();
        return n;
    }

    static final String NUMBER = "(?:[0-9]|[1-5][0-9]|60)";
    static final String CORNER = "\\(" + NUMBER + "," + NUMBER + "\\)";
    static final Pattern CORNERS = Pattern.compile("(?:" + CORNER + "){3,8}");

    int fault() {
        for (int i = 0; i < tape.length(); i++) {
            Matcher m = CORNERS.matcher(tape.substring(0, i + 1));
            if (!m.matches() && !m.hitEnd()) {
                return i;
            }
        }
        return CORNERS.matcher(tape).matches() ? NONE : tape.length();
    }

    int trace(int hand, int layer, int colour) {
        hand(hand);
        index(in(layer, 0, 3));
        argument(in(colour, 1, 9));
        state(fault() == NONE);
        List<P> points = new ArrayList<>();
        for (String c : tape.substring(1, tape.length() - 1).split("\\)\\(")) {
            String[] xy = c.split(",");
            points.add(new P(Integer.parseInt(xy[0]), Integer.parseInt(xy[1])));
        }
        return polygon(hand, layer, colour, points);
    }

    static List<P> rectangle(int x, int y, int wide, int high) {
        return List.of(new P(x, y), new P(x + wide, y), new P(x + wide, y + high), new P(x, y + high));
    }

    static List<P> rhomb(int x, int y, int r) {
        return List.of(new P(x - r, y), new P(x, y - r), new P(x + r, y), new P(x, y + r));
    }

    int box(int hand, int layer, int colour, int x, int y, int wide, int high) {
        hand(hand);
        index(in(layer, 0, 3));
        argument(in(colour, 1, 9) && in(wide, 1, 60) && in(high, 1, 60));
        argument(in(x, 0, 60) && in(y, 0, 60) && in((long) x + wide, 0, 60) && in((long) y + high, 0, 60));
        return polygon(hand, layer, colour, rectangle(x, y, wide, high));
    }

    int diamond(int hand, int layer, int colour, int x, int y, int reach) {
        hand(hand);
        index(in(layer, 0, 3));
        argument(in(colour, 1, 9) && in(reach, 1, 30));
        argument(in((long) x - reach, 0, 60) && in((long) x + reach, 0, 60));
        argument(in((long) y - reach, 0, 60) && in((long) y + reach, 0, 60));
        return polygon(hand, layer, colour, rhomb(x, y, reach));
    }

    long seed;

    int lot(int n) {
        seed = (25173L * seed + 13849) % 65536;
        return (int) (seed / 16 % n);
    }

    int sample(int hand, int s, int many) {
        hand(hand);
        argument(in(s, 0, 65535) && in(many, 1, 6));
        state(60 - journal.size() >= many);
        seed = s;
        int last = NONE;
        for (int i = 0; i < many; i++) {
            int kind = lot(4);
            int layer = lot(4);
            int colour = lot(9) + 1;
            int x = lot(40);
            int y = lot(40);
            int n = lot(10) + 1;
            List<P> p = switch (kind) {
                case 0 -> rectangle(x, y, 2 * n, n);
                case 1 -> rectangle(x, y, n, 2 * n);
                case 2 -> rhomb(x + n, y + n, n);
                default -> List.of(new P(x, y), new P(x + 2 * n, y), new P(x, y + n));
            };
            last = polygon(hand, layer, colour, p);
        }
        return last;
    }

    int erase(int hand, int shape) {
        return make(hand, n -> {
            need(shape);
            int count = 0;
            for (S s : shapes.values()) {
                if (s.leader == shape) {
                    s.leader = NONE;
                    s.kind = NONE;
                    count++;
                }
            }
            shapes.remove(shape);
            for (Set<Integer> members : groups.values()) {
                members.remove(shape);
            }
            return count;
        });
    }

    // ---- moving

    int outermost(int shape) {
        int member = shape;
        int found = NONE;
        boolean again = true;
        while (again) {
            again = false;
            for (Map.Entry<Integer, Set<Integer>> g : groups.entrySet()) {
                if (g.getValue().contains(member)) {
                    found = g.getKey();
                    member = 1000 + found;
                    again = true;
                    break;
                }
            }
        }
        return found;
    }

    Set<Integer> together(int shape) {
        Set<Integer> all = new LinkedHashSet<>();
        int g = outermost(shape);
        for (int k : shapes.keySet()) {
            if (k == shape || g != NONE && outermost(k) == g) {
                all.add(k);
            }
        }
        return all;
    }

    int shift(Set<Integer> chosen, int dx, int dy) {
        Map<Integer, int[]> by = new HashMap<>();
        for (int k : chosen) {
            by.put(k, new int[] {dx, dy});
        }
        boolean more = true;
        while (more) {
            more = false;
            for (int k : shapes.keySet()) {
                S s = shapes.get(k);
                if (!by.containsKey(k) && by.containsKey(s.leader)) {
                    int[] l = by.get(s.leader);
                    by.put(k, new int[] {s.kind == 2 ? 0 : l[0], s.kind == 1 ? 0 : l[1]});
                    more = true;
                }
            }
        }
        for (int k : by.keySet()) {
            int[] d = by.get(k);
            for (List<P> p : shapes.get(k).polygons) {
                for (P c : p) {
                    state(in(c.x + d[0], 0, 60) && in(c.y + d[1], 0, 60));
                }
            }
        }
        int count = 0;
        for (int k : by.keySet()) {
            int[] d = by.get(k);
            shapes.get(k).polygons = shapes.get(k).mapped(c -> new P(c.x + d[0], c.y + d[1]));
            count += d[0] != 0 || d[1] != 0 ? 1 : 0;
        }
        return count;
    }

    int move(int hand, int shape, int dx, int dy, boolean alone) {
        return make(hand, n -> {
            need(shape);
            argument(in(dx, -60, 60) && in(dy, -60, 60));
            return shift(alone ? Set.of(shape) : together(shape), dx, dy);
        });
    }

    void putAll(S s, List<List<P>> now) {
        for (List<P> p : now) {
            for (P c : p) {
                state(in(c.x, 0, 60) && in(c.y, 0, 60));
            }
        }
        s.polygons = now;
    }

    int turn(int hand, int shape, int quarters) {
        return make(hand, n -> {
            S s = need(shape);
            argument(in(quarters, 1, 3));
            // around the origin first, then back to the left and lower side
            int l = s.min(false);
            int b = s.min(true);
            List<List<P>> now = s.mapped(c -> switch (quarters) {
                case 1 -> new P(-c.y, c.x);
                case 2 -> new P(-c.x, -c.y);
                default -> new P(c.y, -c.x);
            });
            S t = new S();
            t.polygons = now;
            int tl = t.min(false);
            int tb = t.min(true);
            putAll(s, t.mapped(c -> new P(c.x - tl + l, c.y - tb + b)));
            return s.max(false);
        });
    }

    int mirror(int hand, int shape, boolean upright) {
        return make(hand, n -> {
            S s = need(shape);
            int x = s.min(false) + s.max(false);
            int y = s.min(true) + s.max(true);
            s.polygons = s.mapped(c -> upright ? new P(x - c.x, c.y) : new P(c.x, y - c.y));
            return s.polygons.stream().mapToInt(List::size).sum();
        });
    }

    int grow(int hand, int shape, int times) {
        return make(hand, n -> {
            S s = need(shape);
            argument(in(times, 2, 4));
            int l = s.min(false);
            int b = s.min(true);
            putAll(s, s.mapped(c -> new P(l + (c.x - l) * times, b + (c.y - b) * times)));
            return s.max(false);
        });
    }

    int paint(int hand, int shape, int colour) {
        return make(hand, n -> {
            S s = need(shape);
            argument(in(colour, 1, 9));
            int before = s.colour;
            s.colour = colour;
            return before;
        });
    }

    static Q between(Q low, Q high) {
        for (int d = 1; d <= 50; d++) {
            for (long t = 1; t <= 100L * d; t++) {
                if (Q.of(t, d).compareTo(low) > 0 && Q.of(t, d).compareTo(high) < 0) {
                    return Q.of(t, d);
                }
            }
        }
        return null;
    }

    /** The shapes at the places low and high of the layer's order; place -1 is 0. */
    void keyBetween(S s, List<Integer> layer, int low, int high) {
        for (int round = 0; round < 2; round++) {
            Q a = low < 0 ? Q.of(0) : shapes.get(layer.get(low)).key;
            Q found = between(a, shapes.get(layer.get(high)).key);
            if (found != null) {
                s.key = found;
                return;
            }
            for (int i = 0; i < layer.size(); i++) {
                shapes.get(layer.get(i)).key = Q.of(i + 1);
            }
            renumbered++;
        }
    }

    static int renumbered = 0;

    int raise(int hand, int shape, int how) {
        return make(hand, n -> {
            S s = need(shape);
            argument(in(how, 0, 3));
            List<Integer> layer = layerOrder(s.layer);
            int at = layer.indexOf(shape);
            int last = layer.size() - 1;
            if (how == 0 && at < last) {
                if (at + 2 <= last) {
                    keyBetween(s, layer, at + 1, at + 2);
                } else {
                    s.key = Q.of(shapes.get(layer.get(at + 1)).key.floor() + 1);
                }
            } else if (how == 1 && at > 0) {
                keyBetween(s, layer, at - 2, at - 1);
            } else if (how == 2 && at < last) {
                s.key = Q.of(shapes.get(layer.get(last)).key.floor() + 1);
            } else if (how == 3 && at > 0) {
                keyBetween(s, layer, -1, 0);
            }
            return layerOrder(s.layer).indexOf(shape);
        });
    }

    int toLayer(int hand, int shape, int layer) {
        return make(hand, n -> {
            S s = need(shape);
            index(in(layer, 0, 3));
            int before = s.layer;
            toTop(shape, layer);
            return before;
        });
    }

    int show(int hand, int layer, boolean v) {
        return make(hand, n -> {
            index(in(layer, 0, 3));
            visible[layer] = v;
            return layerOrder(layer).size();
        });
    }

    // ---- ties, groups, guides

    List<Integer> ringOf(int shape, int leader) {
        List<Integer> all = new ArrayList<>(List.of(shape));
        for (int at = leader; at != NONE; at = shapes.get(at).leader) {
            if (at == shape) {
                return all;
            }
            all.add(at);
        }
        return List.of();
    }

    int tie(int hand, int shape, int leader, int kind) {
        return make(hand, n -> {
            S s = need(shape);
            need(leader);
            argument(in(kind, 0, 2));
            state(shape != leader && ringOf(shape, leader).isEmpty());
            s.leader = leader;
            s.kind = kind;
            int over = 0;
            for (int at = shapes.get(leader).leader; at != NONE; at = shapes.get(at).leader) {
                over++;
            }
            return over;
        });
    }

    int untie(int hand, int shape) {
        return make(hand, n -> {
            S s = need(shape);
            state(s.leader != NONE);
            int before = s.leader;
            s.leader = NONE;
            s.kind = NONE;
            return before;
        });
    }

    int ring(int shape, int leader, int place) {
        need(shape);
        need(leader);
        List<Integer> all = ringOf(shape, leader);
        if (place == NONE) {
            return all.size();
        }
        index(in(place, 0, all.size() - 1));
        return all.get(place);
    }

    int gather(int hand, long set) {
        return make(hand, n -> {
            Set<Integer> members = new LinkedHashSet<>();
            for (int k = 0; k < 64; k++) {
                if ((set & (1L << k)) != 0) {
                    need(k);
                    int g = outermost(k);
                    members.add(g == NONE ? k : 1000 + g);
                }
            }
            state(members.size() >= 2);
            groups.put(n, members);
            return n;
        });
    }

    int scatter(int hand, int shape) {
        return make(hand, n -> {
            need(shape);
            int g = outermost(shape);
            state(g != NONE);
            return groups.remove(g).size();
        });
    }

    int spread(int hand, int shape) {
        return make(hand, n -> {
            need(shape);
            List<Integer> all = new ArrayList<>(together(shape));
            state(all.size() >= 3);
            all.sort(Comparator.comparing((Integer k) -> shapes.get(k).min(false)).thenComparing(k -> k));
            int gaps = 0;
            for (int i = 1; i < all.size(); i++) {
                gaps += shapes.get(all.get(i)).min(false) - shapes.get(all.get(i - 1)).max(false);
            }
            state(gaps >= 0);
            int moved = 0;
            for (int i = 1; i < all.size() - 1; i++) {
                int gap = 0;
                while (gap * (all.size() - 1) + (all.size() - 1) <= gaps) {
                    gap++;
                }
                int more = gaps - gap * (all.size() - 1);
                int left = shapes.get(all.get(i - 1)).max(false) + gap + (i - 1 < more ? 1 : 0);
                S s = shapes.get(all.get(i));
                int dx = left - s.min(false);
                s.polygons = s.mapped(c -> new P(c.x + dx, c.y));
                moved += dx == 0 ? 0 : 1;
            }
            return moved;
        });
    }

    int guide(int hand, boolean upright, int at) {
        return make(hand, n -> {
            argument(in(at, 0, 60));
            Set<Integer> those = upright ? uprights : levels;
            state(uprights.size() + levels.size() < 8 && !those.contains(at));
            those.add(at);
            return uprights.size() + levels.size();
        });
    }

    static int pull(TreeSet<Integer> guides, int low, int high) {
        List<int[]> all = new ArrayList<>();
        for (int g : guides) {
            all.add(new int[] {Math.abs(g - low), 0, g, g - low});
            if ((low + high) % 2 == 0) {
                all.add(new int[] {Math.abs(g - (low + high) / 2), 1, g, g - (low + high) / 2});
            }
            all.add(new int[] {Math.abs(g - high), 2, g, g - high});
        }
        all.removeIf(a -> a[0] > 5);
        all.sort(Comparator.<int[]>comparingInt(a -> a[0]).thenComparing(a -> a[1]).thenComparing(a -> a[2]));
        return all.isEmpty() ? 0 : all.get(0)[3];
    }

    int snap(int hand, int shape) {
        return make(hand, n -> {
            need(shape);
            Set<Integer> all = together(shape);
            int dx = pull(uprights, all.stream().mapToInt(k -> shapes.get(k).min(false)).min().getAsInt(),
                    all.stream().mapToInt(k -> shapes.get(k).max(false)).max().getAsInt());
            int dy = pull(levels, all.stream().mapToInt(k -> shapes.get(k).min(true)).min().getAsInt(),
                    all.stream().mapToInt(k -> shapes.get(k).max(true)).max().getAsInt());
            shift(all, dx, dy);
            return Math.abs(dx) + Math.abs(dy);
        });
    }

    int join(int hand, int how, int shape, int other) {
        return make(hand, n -> {
            S a = need(shape);
            S b = need(other);
            argument(in(how, 0, 3));
            state(a.polygons.size() + b.polygons.size() <= 4);
            List<List<P>> all = new ArrayList<>(a.polygons);
            all.addAll(b.polygons);
            Law law = new Both(how, a.law, b.law.pushed(a.polygons.size()));
            return addShape(n, hand, a.layer, a.colour, all, law);
        });
    }

    int undo(int hand) {
        hand(hand);
        for (int i = journal.size() - 1; i >= 0; i--) {
            if (journal.get(i).hand == hand && journal.get(i).stands) {
                journal.get(i).stands = false;
                rebuild();
                return i;
            }
        }
        throw new IllegalStateException();
    }

    // ---- what is there

    long shapes() {
        long set = 0;
        for (int k : shapes.keySet()) {
            set += 1L << k;
        }
        return set;
    }

    int shapeAt(int place) {
        index(in(place, 0, shapes.size() - 1));
        return order().get(place);
    }

    int of(int shape, int what) {
        S s = need(shape);
        argument(in(what, 0, 13));
        int table = 0;
        for (int set = 0; set < 1 << s.polygons.size(); set++) {
            int m = set;
            if (s.law.isHeld(k -> (m & (1 << k)) != 0)) {
                table += 1 << set;
            }
        }
        int[] all = {s.layer, s.colour, s.leader, s.kind, outermost(shape), s.polygons.size(), table,
            (int) s.key.n, (int) s.key.d, s.hand, s.min(false), s.min(true), s.max(false), s.max(true)};
        return all[what];
    }

    int corners(int shape, int polygon) {
        S s = need(shape);
        index(in(polygon, 0, s.polygons.size() - 1));
        return s.polygons.get(polygon).size();
    }

    int corner(int shape, int polygon, int corner, boolean isY) {
        index(in(corner, 0, corners(shape, polygon) - 1));
        P p = need(shape).polygons.get(polygon).get(corner);
        return isY ? p.y : p.x;
    }

    boolean holds(int shape, int x, int y) {
        S s = need(shape);
        argument(in(x, 0, 120) && in(y, 0, 120));
        return s.holds(Q.of(x, 2), Q.of(y, 2));
    }

    List<Integer> seen() {
        List<Integer> all = order();
        all.removeIf(k -> !visible[shapes.get(k).layer]);
        return all;
    }

    int hit(int x, int y) {
        argument(in(x, 0, 120) && in(y, 0, 120));
        int found = NONE;
        for (int k : seen()) {
            if (shapes.get(k).holds(Q.of(x, 2), Q.of(y, 2))) {
                found = k;
            }
        }
        return found;
    }

    static Q areaOf(int how, S a, S b) {
        List<P[]> edges = new ArrayList<>();
        for (S s : List.of(a, b)) {
            for (List<P> p : s.polygons) {
                for (int i = 0; i < p.size(); i++) {
                    edges.add(new P[] {p.get(i), p.get((i + 1) % p.size())});
                }
            }
        }
        TreeSet<Q> cuts = new TreeSet<>();
        for (P[] e : edges) {
            cuts.add(Q.of(e[0].x));
            for (P[] f : edges) {
                Q[] m = common(e, f);
                if (m != null) {
                    cuts.add(m[0]);
                }
            }
        }
        Both law = new Both(how, new Leaf(0), new Leaf(1));
        Q sum = Q.of(0);
        Q from = null;
        for (Q to : cuts) {
            if (from != null) {
                Q x = from.plus(to).over(Q.of(2));
                TreeSet<Q> ys = new TreeSet<>();
                for (P[] e : edges) {
                    if (e[0].x != e[1].x && Q.of(Math.min(e[0].x, e[1].x)).compareTo(x) < 0
                            && Q.of(Math.max(e[0].x, e[1].x)).compareTo(x) > 0) {
                        ys.add(Q.of(e[0].y).plus(x.minus(Q.of(e[0].x))
                                .times(Q.of(e[1].y - e[0].y, e[1].x - e[0].x))));
                    }
                }
                Q low = null;
                for (Q high : ys) {
                    if (low != null) {
                        Q y = low.plus(high).over(Q.of(2));
                        if (law.isHeld(k -> (k == 0 ? a : b).holds(x, y))) {
                            sum = sum.plus(high.minus(low).times(to.minus(from)));
                        }
                    }
                    low = high;
                }
            }
            from = to;
        }
        return sum;
    }

    /** The point that two edges have in common, if they are not parallel. */
    static Q[] common(P[] e, P[] f) {
        long ax = e[1].x - e[0].x;
        long ay = e[1].y - e[0].y;
        long bx = f[1].x - f[0].x;
        long by = f[1].y - f[0].y;
        long det = ax * by - ay * bx;
        if (det == 0) {
            return null;
        }
        long cx = f[0].x - e[0].x;
        long cy = f[0].y - e[0].y;
        Q t = Q.of(cx * by - cy * bx, det);
        Q u = Q.of(cx * ay - cy * ax, det);
        Q zero = Q.of(0);
        Q one = Q.of(1);
        if (t.compareTo(zero) < 0 || t.compareTo(one) > 0 || u.compareTo(zero) < 0 || u.compareTo(one) > 0) {
            return null;
        }
        return new Q[] {Q.of(e[0].x).plus(t.times(Q.of(ax))), Q.of(e[0].y).plus(t.times(Q.of(ay)))};
    }

    long caught(int x, int y, int wide, int high, boolean wholly) {
        argument(in(wide, 1, 60) && in(high, 1, 60) && in(x, 0, 60) && in(y, 0, 60));
        argument(in(x + wide, 0, 60) && in(y + high, 0, 60));
        S frame = new S();
        frame.polygons = List.of(rectangle(x, y, wide, high));
        long set = 0;
        for (int k : seen()) {
            S s = shapes.get(k);
            boolean is = wholly ? s.min(false) >= x && s.max(false) <= x + wide && s.min(true) >= y && s.max(true) <= y + high
                    : areaOf(1, s, frame).n > 0;
            set += is ? 1L << k : 0;
        }
        return set;
    }

    int area(int shape, boolean below) {
        S s = need(shape);
        Q q = areaOf(0, s, s);
        return (int) (below ? q.d : q.n);
    }

    int areaOf(int how, int shape, int other, boolean below) {
        S a = need(shape);
        S b = need(other);
        argument(in(how, 0, 3));
        Q q = areaOf(how, a, b);
        return (int) (below ? q.d : q.n);
    }

    List<Q[]> meetAll(int shape, int other) {
        S a = need(shape);
        S b = need(other);
        TreeSet<Q[]> all = new TreeSet<>(Comparator.<Q[], Q>comparing(m -> m[0]).thenComparing(m -> m[1]));
        for (List<P> p : a.polygons) {
            for (List<P> q : b.polygons) {
                for (int i = 0; i < p.size(); i++) {
                    for (int j = 0; j < q.size(); j++) {
                        Q[] m = common(new P[] {p.get(i), p.get((i + 1) % p.size())},
                                new P[] {q.get(j), q.get((j + 1) % q.size())});
                        if (m != null) {
                            all.add(m);
                        }
                    }
                }
            }
        }
        return new ArrayList<>(all);
    }

    int meetings(int shape, int other) {
        return meetAll(shape, other).size();
    }

    int meeting(int shape, int other, int place, int what) {
        List<Q[]> all = meetAll(shape, other);
        index(in(place, 0, all.size() - 1));
        argument(in(what, 0, 3));
        Q q = all.get(place)[what / 2];
        return (int) (what % 2 == 0 ? q.n : q.d);
    }

    int way(int shape, int other, boolean steps) {
        S a = need(shape);
        S b = need(other);
        boolean[][] shut = new boolean[61][61];
        for (int x = 0; x <= 60; x++) {
            for (int y = 0; y <= 60; y++) {
                for (int k : seen()) {
                    shut[x][y] |= k != shape && k != other && shapes.get(k).holds(Q.of(x), Q.of(y));
                }
            }
        }
        int ax = a.min(false);
        int ay = a.min(true);
        int bx = b.min(false);
        int by = b.min(true);
        if (shut[ax][ay] || shut[bx][by]) {
            return NONE;
        }
        int[] dx = {1, 0, -1, 0};
        int[] dy = {0, 1, 0, -1};
        boolean[][][] done = new boolean[61][61][5];
        PriorityQueue<int[]> open = new PriorityQueue<>(Comparator.<int[]>comparingInt(s -> s[0]).thenComparingInt(s -> s[1]));
        open.add(new int[] {0, 0, ax, ay, 4});
        while (!open.isEmpty()) {
            int[] s = open.remove();
            if (s[2] == bx && s[3] == by) {
                return steps ? s[1] : s[0];
            }
            if (done[s[2]][s[3]][s[4]]) {
                continue;
            }
            done[s[2]][s[3]][s[4]] = true;
            for (int d = 0; d < 4; d++) {
                int x = s[2] + dx[d];
                int y = s[3] + dy[d];
                if (in(x, 0, 60) && in(y, 0, 60) && !shut[x][y]) {
                    open.add(new int[] {s[0] + (s[4] == 4 || s[4] == d ? 0 : 1), s[1] + 1, x, y, d});
                }
            }
        }
        return NONE;
    }

    int cell(int x, int y) {
        index(in(x, 0, 59) && in(y, 0, 59));
        int k = hit(2 * x + 1, 2 * y + 1);
        return k == NONE ? 0 : shapes.get(k).colour;
    }

    int row(int y) {
        index(in(y, 0, 59));
        int sum = 0;
        for (int x = 0; x < 60; x++) {
            sum += cell(x, y) * (x + 1);
        }
        return sum;
    }

    int field(int x, int y) {
        index(in(x, 0, 59) && in(y, 0, 59));
        int[][] colours = new int[60][60];
        for (int i = 0; i < 60; i++) {
            for (int j = 0; j < 60; j++) {
                colours[i][j] = cell(i, j);
            }
        }
        List<P> all = new ArrayList<>(List.of(new P(x, y)));
        Set<P> known = new LinkedHashSet<>(all);
        for (int i = 0; i < all.size(); i++) {
            P p = all.get(i);
            for (P q : List.of(new P(p.x + 1, p.y), new P(p.x - 1, p.y), new P(p.x, p.y + 1), new P(p.x, p.y - 1))) {
                if (in(q.x, 0, 59) && in(q.y, 0, 59) && colours[q.x][q.y] == colours[x][y] && known.add(q)) {
                    all.add(q);
                }
            }
        }
        return all.size();
    }

    int changes() {
        return journal.size();
    }

    boolean stands(int change) {
        index(in(change, 0, journal.size() - 1));
        return journal.get(change).stands;
    }

    // ---- texts

    int type(int sign) {
        argument(in(sign, 32, 126));
        state(tape.length() < 80);
        tape.append((char) sign);
        return tape.length();
    }

    int wipe() {
        int n = tape.length();
        tape = new StringBuilder();
        return n;
    }

    int paper(int shape) {
        S s = need(shape);
        List<String> all = new ArrayList<>();
        for (List<P> p : s.polygons) {
            StringBuilder text = new StringBuilder();
            for (P c : p) {
                text.append("(" + c.x + "," + c.y + ")");
            }
            all.add(text.toString());
        }
        out = String.join(";", all);
        return out.length();
    }

    int out(int place) {
        index(in(place, 0, out.length() - 1));
        return out.charAt(place);
    }
}
