import java.util.ArrayList;
import java.util.List;
import java.util.Random;

/** What always holds, and "0 What all parts share". */
final class SharedSentences {
    private static final int NONE = Layerboard.NONE;

    static void tell(Doc d) {
        d.in("Terms");
        d.test(() -> { }, "WHAT ALWAYS HOLDS.", "Take any sequence of calls.");
        d.test(SharedSentences::uppermostIsHit, "(1) The shape that hit() tells");
        d.test(SharedSentences::oneSideHoldsAnEdge, "of two shapes that have an edge in common");
        d.test(SharedSentences::areasAddUp, "(2) The areas of what two shapes have together");
        d.test(SharedSentences::setsAreHeld, "a shape that is joined, cut or taken away");
        d.test(SharedSentences::keysAreFound, "(3) Between the keys");
        d.test(SharedSentences::noRings, "(4) Ties never form a ring");
        d.test(SharedSentences::followersMove, "a shape that follows moves");
        d.test(SharedSentences::snappedStays, "(5) What has been snapped");
        d.test(SharedSentences::undoLeavesTheOthers, "(6) undo() of a hand");
        d.in("0 What all parts share");
        d.test(SharedSentences::throwingChangesNothing, "A method that throws an exception changes nothing.");
        d.test(SharedSentences::theFirstNamedIsThrown, "If several of its exceptions apply");
        d.test(() -> Due.is("NONE", Layerboard.NONE, -1), "NONE is -1.");
        d.test(SharedSentences::handsAndLayers, "There are the hands 0 to 2 and the layers 0 to 3");
        d.test(SharedSentences::colours, "colours are 1 to 9.");
        d.test(SharedSentences::whatAChangeIs, "A change is a call of a method that has a hand.");
        d.test(SharedSentences::sixtyChanges, "Changes are numbered from 0 on");
        d.test(SharedSentences::aThrowIsNoChange, "a call that throws is none.");
        d.test(SharedSentences::numbersOfShapesAndGroups, "A shape, or a group, has the number");
        d.test(SharedSentences::oneForEachShape, "(sample() makes several changes");
        d.test(SharedSentences::noMoreChanges, "If no more changes can be made");
        d.test(SharedSentences::standsUntilUndone, "A change stands, until undo() takes it back.");
        d.test(SharedSentences::cornersAsTheyWere, "The board is what all changes that stand make");
        d.test(SharedSentences::withoutItsShape, "one that would throw there does nothing");
        d.test(SharedSentences::withoutItsTies, "one that would throw there does nothing");
        d.test(SharedSentences::withoutItsRoom, "one that would throw there does nothing");
        d.test(SharedSentences::onlyUndoLetsItCome, "(So nothing but undo()");
        d.test(SharedSentences::askedOfThatBoard, "All questions are asked of that board.");
        d.test(SharedSentences::seedsOfLots, "By lots, a seed s becomes");
        d.test(SharedSentences::lots, "the lot of n is");
        d.test(SharedSentences::bitsOfSets, "Sets of shapes are told as longs");
    }

    // ---- what always holds

    private static Layerboard someBoard(int seed) {
        Random random = new Random(seed);
        Layerboard b = new Layerboard();
        b.sample(0, random.nextInt(65536), 6);
        b.sample(1, random.nextInt(65536), 6);
        b.join(2, random.nextInt(4), random.nextInt(6), random.nextInt(12));
        b.join(2, random.nextInt(4), 12, random.nextInt(12));
        b.show(0, random.nextInt(4), false);
        for (int i = 0; i < 6; i++) {
            b.raise(1, random.nextInt(14), random.nextInt(4));
        }
        return b;
    }

    private static void uppermostIsHit() {
        for (int seed = 0; seed < 5; seed++) {
            Layerboard b = someBoard(seed);
            long seen = b.caught(0, 0, 60, 60, true);
            for (int x = 0; x <= 120; x += 3) {
                for (int y = 0; y <= 120; y += 1) {
                    int want = NONE;
                    for (int i = 0; i < Long.bitCount(b.shapes()); i++) {
                        int shape = b.shapeAt(i);
                        want = (seen >> shape & 1) == 1 && b.holds(shape, x, y) ? shape : want;
                    }
                    Due.is("hit " + x + ", " + y, b.hit(x, y), want);
                }
            }
        }
    }

    /** In each direction that an edge may have, two shapes lie on its two sides, in both orders of corners. */
    private static void oneSideHoldsAnEdge() {
        int[][] steps = {{1, 0}, {0, 1}, {1, 1}, {1, -1}, {2, 1}, {2, -1}, {1, 2}, {1, -2}};
        for (int[] s : steps) {
            int bx = 20 + 6 * s[0];
            int by = 20 + 6 * s[1];
            int ox = s[0] == 0 ? 6 : 0;
            int oy = 6 - ox;
            Layerboard b = new Layerboard();
            Due.draws(b, 20, 20, bx, by, bx + ox, by + oy, 20 + ox, 20 + oy);
            Due.draws(b, 20, 20, 20 - ox, 20 - oy, bx - ox, by - oy, bx, by);
            for (int i = 1; i < 12; i++) {
                int x = 40 + i * s[0];
                int y = 40 + i * s[1];
                Due.is("just one side holds the edge", b.holds(0, x, y) != b.holds(1, x, y), true);
                Due.is("and is hit", b.holds(b.hit(x, y), x, y), true);
            }
        }
    }

    private static long units(Layerboard b, int how, int one, int other) {
        return 14400L / b.areaOf(how, one, other, true) * b.areaOf(how, one, other, false);
    }

    private static void areasAddUp() {
        for (int seed = 0; seed < 12; seed++) {
            Layerboard b = someBoard(seed);
            for (int one = 0; one < 14; one++) {
                for (int other = 0; other < 14; other++) {
                    long areas = 14400L / b.area(one, true) * b.area(one, false)
                            + 14400L / b.area(other, true) * b.area(other, false);
                    Due.is("together and in common", units(b, 0, one, other) + units(b, 1, one, other), areas);
                    Due.is("either", units(b, 0, one, other) - units(b, 1, one, other), units(b, 3, one, other));
                    Due.is("less", units(b, 0, one, other) - units(b, 2, one, other),
                            14400L / b.area(other, true) * b.area(other, false));
                }
            }
        }
    }

    private static boolean isHeld(int how, boolean one, boolean other) {
        return new boolean[] {one | other, one & other, one & !other, one ^ other}[how];
    }

    private static void setsAreHeld() {
        for (int how = 0; how < 4; how++) {
            Layerboard b = new Layerboard();
            Due.draws(b, 5, 5, 25, 15, 15, 35, 5, 25);
            b.diamond(0, 0, 1, 20, 20, 12);
            Due.draws(b, 0, 10, 20, 30, 20, 10, 0, 30);
            b.join(0, how, 0, 1);
            b.join(0, 3 - how, 2, 3);
            for (int x = 0; x <= 70; x++) {
                for (int y = 0; y <= 80; y++) {
                    Due.is("of two", b.holds(3, x, y), isHeld(how, b.holds(0, x, y), b.holds(1, x, y)));
                    Due.is("of three", b.holds(4, x, y), isHeld(3 - how, b.holds(2, x, y), b.holds(3, x, y)));
                }
            }
        }
    }

    private static int compareKeys(Layerboard b, int one, int other) {
        return Long.compare((long) b.of(one, 7) * b.of(other, 8), (long) b.of(other, 7) * b.of(one, 8));
    }

    /** A layer is held as a list; each raise puts the shape where the list has it, however many there were. */
    private static void keysAreFound() {
        for (int seed = 0; seed < 40; seed++) {
            Random random = new Random(seed);
            Layerboard b = new Layerboard();
            List<Integer> layer = new ArrayList<>();
            for (int i = 0; i < 3 + seed % 4; i++) {
                layer.add(b.box(0, 1, 1, i, i, 2, 2));
            }
            while (b.changes() < 60) {
                int at = seed % 3 == 0 ? random.nextInt(2) : random.nextInt(layer.size());
                int how = seed % 3 == 0 ? 3 - 2 * random.nextInt(2) : random.nextInt(4);
                int last = layer.size() - 1;
                int to = new int[] {Math.min(at + 1, last), Math.max(at - 1, 0), last, 0}[how];
                Integer shape = layer.remove(at);
                layer.add(to, shape);
                Due.is("where it is then", b.raise(0, shape, how), to);
                for (int i = 0; i < layer.size(); i++) {
                    Due.is("the order", b.shapeAt(i), layer.get(i));
                    Due.is("a denominator", b.of(layer.get(i), 8) >= 1 && b.of(layer.get(i), 8) <= 50, true);
                    Due.is("unlike", i == 0 || compareKeys(b, layer.get(i - 1), layer.get(i)) < 0, true);
                }
            }
        }
    }

    private static void noRings() {
        for (int seed = 0; seed < 20; seed++) {
            Random random = new Random(seed);
            Layerboard b = new Layerboard();
            b.sample(0, seed, 6);
            while (b.changes() < 60) {
                int shape = random.nextInt(6);
                int leader = random.nextInt(6);
                boolean isRing = b.ring(shape, leader, NONE) > 0;
                try {
                    b.tie(0, shape, leader, random.nextInt(3));
                    Due.is("tied", isRing, false);
                } catch (IllegalStateException e) {
                    Due.is("refused", isRing, true);
                    b.show(1, 3, true);
                }
                for (int i = 0; i < 6; i++) {
                    int at = i;
                    for (int k = 0; k < 6 && at != NONE; k++) {
                        at = b.of(at, 2);
                    }
                    Due.is("leaders come to an end", at, NONE);
                }
            }
        }
    }

    private static void followersMove() {
        for (int kind = 0; kind < 3; kind++) {
            Layerboard b = new Layerboard();
            b.box(0, 0, 1, 10, 10, 4, 4);
            b.box(0, 3, 1, 30, 30, 4, 4);
            b.tie(0, 1, 0, kind);
            b.move(0, 0, 3, -5, false);
            b.move(0, 0, -1, -1, true);
            Due.is("across", b.of(1, 10), kind == 2 ? 30 : 32);
            Due.is("up", b.of(1, 11), kind == 1 ? 30 : 24);
        }
    }

    private static void snappedStays() {
        for (int seed = 0; seed < 60; seed++) {
            Random random = new Random(seed);
            Layerboard b = new Layerboard();
            b.sample(0, random.nextInt(65536), 5);
            b.gather(0, 0b011);
            b.tie(0, 2, 0, 0);
            b.tie(0, 3, 2, 1 + seed % 2);
            for (int i = 0; i < 8; i++) {
                b.guide(1, i % 2 == 0, 7 * i + random.nextInt(7));
            }
            for (int shape = 0; shape < 5; shape++) {
                snapTwice(b, shape);
            }
        }
    }

    private static void snapTwice(Layerboard b, int shape) {
        try {
            b.snap(2, shape);
        } catch (IllegalStateException e) {
            return;
        }
        int[] places = new int[10];
        for (int i = 0; i < 10; i++) {
            places[i] = b.of(i / 2, 10 + i % 2);
        }
        Due.is("snapped again", b.snap(2, shape), 0);
        for (int i = 0; i < 10; i++) {
            Due.is("not moved", b.of(i / 2, 10 + i % 2), places[i]);
        }
    }

    /** A change as it can be made again; those of layer 3 alter nothing that is told. */
    private record Call(String name, Object... args) {
    }

    private static void undoLeavesTheOthers() {
        for (int seed = 0; seed < 40; seed++) {
            Random random = new Random(seed);
            Layerboard b = new Layerboard();
            List<Call> made = new ArrayList<>();
            while (b.changes() < 40) {
                Call c = someCall(random);
                try {
                    Told.call(b, c.name, c.args);
                    made.add(c);
                } catch (IndexOutOfBoundsException | IllegalStateException e) {
                    Due.is("no change", b.changes(), made.size());
                }
            }
            for (int i = 0; i < 8; i++) {
                int gone = b.undo(random.nextInt(3));
                made.set(gone, null);
                Due.is("as all others make it", boardOf(b), boardOf(madeAnew(made)));
            }
        }
    }

    private static Layerboard madeAnew(List<Call> made) {
        Layerboard b = new Layerboard();
        for (Call c : made) {
            int before = b.changes();
            try {
                if (c != null) {
                    Told.call(b, c.name, c.args);
                }
            } catch (IndexOutOfBoundsException | IllegalStateException e) {
                Due.is("a throw is no change", b.changes(), before);
            }
            Due.fillTo(b, before + 1);
        }
        return b;
    }

    /** All that is told but what stands. */
    private static String boardOf(Layerboard b) {
        String told = Told.board(b);
        return told.substring(0, told.indexOf(' ')) + told.substring(told.indexOf('\n'));
    }

    private static Call someCall(Random random) {
        int hand = random.nextInt(3);
        int one = random.nextInt(20);
        int other = random.nextInt(20);
        int lot = random.nextInt(4);
        return switch (random.nextInt(15)) {
            case 0, 1, 2 -> new Call("box", hand, lot % 3, lot + 1, one, other, 1 + one / 2, 1 + other / 2);
            case 3 -> new Call("diamond", hand, lot % 3, lot + 1, one + 20, other + 20, 1 + one / 2);
            case 4 -> new Call("erase", hand, one);
            case 5, 6 -> new Call("move", hand, one, other - 9, lot - 2, random.nextBoolean());
            case 7 -> new Call("turn", hand, one, 1 + lot % 3);
            case 8 -> new Call("raise", hand, one, lot);
            case 9 -> new Call("toLayer", hand, one, lot % 3);
            case 10 -> new Call("tie", hand, one, other, lot % 3);
            case 11 -> new Call("gather", hand, 1L << one | 1L << other);
            case 12 -> new Call("join", hand, lot, one, other);
            case 13 -> new Call("show", hand, lot % 3, one % 3 > 0);
            default -> new Call("grow", hand, one, 2);
        };
    }

    // ---- 0 what all parts share

    private static void throwingChangesNothing() {
        for (Refusals r : Clauses.all()) {
            r.holdNothingChanged();
        }
    }

    private static void theFirstNamedIsThrown() {
        for (Refusals r : Clauses.all()) {
            r.holdPairs();
        }
    }

    private static void handsAndLayers() {
        Layerboard b = new Layerboard();
        for (int hand = 0; hand < 3; hand++) {
            for (int layer = 0; layer < 4; layer++) {
                int shape = b.box(hand, layer, 1, 0, 0, 1, 1);
                Due.is("hand", b.of(shape, 9), hand);
                Due.is("layer", b.of(shape, 0), layer);
            }
        }
        for (int wrong : new int[] {-1, 3, 4}) {
            Due.fails("hand " + wrong, Due.INDEX, () -> b.box(wrong, 0, 1, 0, 0, 1, 1));
            Due.fails("undo of hand " + wrong, Due.INDEX, () -> b.undo(wrong));
        }
        for (int wrong : new int[] {-1, 4, 5}) {
            Due.fails("layer " + wrong, Due.INDEX, () -> b.box(0, wrong, 1, 0, 0, 1, 1));
            Due.fails("show layer " + wrong, Due.INDEX, () -> b.show(0, wrong, true));
            Due.fails("to layer " + wrong, Due.INDEX, () -> b.toLayer(0, 0, wrong));
        }
    }

    private static void colours() {
        Layerboard b = new Layerboard();
        for (int colour = 1; colour <= 9; colour++) {
            int shape = b.box(0, 0, colour, 0, 0, 1, 1);
            Due.is("colour", b.of(shape, 1), colour);
            b.paint(0, shape, 10 - colour);
            Due.is("painted", b.of(shape, 1), 10 - colour);
        }
        for (int wrong : new int[] {0, 10, -1}) {
            Due.fails("colour " + wrong, Due.ARGUMENT, () -> b.box(0, 0, wrong, 0, 0, 1, 1));
            Due.fails("paint " + wrong, Due.ARGUMENT, () -> b.paint(0, 0, wrong));
        }
    }

    private static final Object[][] CHANGES = {{"draw", 0, 0, 1}, {"trace", 0, 0, 1}, {"box", 0, 0, 1, 5, 5, 3, 3},
        {"diamond", 0, 0, 1, 9, 9, 3}, {"sample", 0, 0, 1}, {"erase", 0, 2}, {"move", 0, 0, 0, 0, true}, {"turn", 0, 0, 1},
        {"mirror", 0, 0, true}, {"grow", 0, 0, 2}, {"paint", 0, 0, 1}, {"raise", 0, 0, 0}, {"toLayer", 0, 0, 0},
        {"show", 0, 0, true}, {"tie", 0, 2, 0, 0}, {"untie", 0, 1}, {"gather", 0, 0b10001L}, {"scatter", 0, 0},
        {"spread", 0, 0}, {"guide", 0, true, 30}, {"snap", 0, 0}, {"join", 0, 0, 0, 1}};

    private static Object made(Layerboard b, Object[] change) {
        return Told.call(b, (String) change[0], java.util.Arrays.copyOfRange(change, 1, change.length));
    }

    private static void whatAChangeIs() {
        for (Object[] change : CHANGES) {
            Layerboard b = Refusals.fresh();
            made(b, change);
            Due.is("a change by " + change[0], b.changes(), 11);
            Due.is("it stands", b.stands(10), true);
        }
        Layerboard b = Refusals.fresh();
        b.lift();
        b.pen(0, 0);
        b.wipe();
        b.type(40);
        b.paper(0);
        b.undo(0);
        Told.board(b);
        Due.is("no change by a call without a hand, nor by undo", b.changes(), 10);
    }

    private static void sixtyChanges() {
        Layerboard b = new Layerboard();
        for (int i = 0; i < 60; i++) {
            Due.is("numbers", b.box(i % 3, 0, 1, 0, 0, 1, 1), i);
            Due.is("how many", b.changes(), i + 1);
        }
        Due.fails("a 61st", Due.STATE, () -> b.box(0, 0, 1, 0, 0, 1, 1));
        Due.is("undo", b.undo(2), 59);
        Due.fails("a 61st, after undo", Due.STATE, () -> b.box(0, 0, 1, 0, 0, 1, 1));
        Due.is("undo", b.undo(0), 57);
        Due.fails("a 61st, after undo", Due.STATE, () -> b.paint(0, 0, 2));
        Due.is("60 ever", b.changes(), 60);
        Due.is("shapes that are left", Long.bitCount(b.shapes()), 58);
    }

    private static void aThrowIsNoChange() {
        Layerboard b = new Layerboard();
        b.box(0, 0, 1, 0, 0, 1, 1);
        Due.fails("no shape", Due.INDEX, () -> b.paint(0, 1, 1));
        Due.fails("no colour", Due.ARGUMENT, () -> b.paint(0, 0, 0));
        Due.fails("no room", Due.STATE, () -> b.move(0, 0, -1, 0, true));
        Due.is("none of them", b.changes(), 1);
        Due.fails("not there", Due.INDEX, () -> b.stands(1));
        Due.is("the next number", b.box(0, 0, 1, 0, 0, 1, 1), 1);
        Due.is("taken back is the last one that was made", b.undo(0), 1);
    }

    private static void numbersOfShapesAndGroups() {
        Layerboard b = new Layerboard();
        b.show(0, 0, true);
        Due.is("a box", b.box(0, 0, 1, 0, 0, 1, 1), 1);
        b.show(0, 0, true);
        Due.is("a diamond", b.diamond(0, 0, 1, 9, 9, 1), 3);
        Due.is("a group", b.gather(0, 0b1010), 4);
        Due.is("its number", b.of(1, 4), 4);
        Due.is("a joined one", b.join(0, 0, 1, 3), 5);
        b.undo(0);
        Due.is("a number is not given twice", b.box(0, 0, 1, 0, 0, 1, 1), 6);
        Due.is("shapes", b.shapes(), 0b1001010);
    }

    private static void oneForEachShape() {
        Layerboard b = new Layerboard();
        Due.is("the last one of four", b.sample(1, 99, 4), 3);
        Due.is("four changes", b.changes(), 4);
        for (int i = 3; i >= 0; i--) {
            Due.is("taken back by itself", b.undo(1), i);
        }
    }

    private static void noMoreChanges() {
        for (Object[] change : CHANGES) {
            Layerboard most = Due.fillTo(Refusals.fresh(), 59);
            Layerboard full = Due.fillTo(Refusals.fresh(), 60);
            Due.answers("the 60th by " + change[0], () -> made(most, change));
            Due.fails("the 61st by " + change[0], Due.STATE, () -> made(full, change));
        }
    }

    private static void standsUntilUndone() {
        Layerboard b = new Layerboard();
        b.box(0, 0, 1, 0, 0, 1, 1);
        b.paint(0, 0, 2);
        b.paint(1, 0, 3);
        for (int i = 0; i < 3; i++) {
            Due.is("stands", b.stands(i), true);
        }
        b.undo(0);
        Due.is("stands no more", b.stands(1), false);
        Due.is("the one ahead of it stands", b.stands(0), true);
        Due.is("that of another hand stands", b.stands(2), true);
        b.undo(0);
        Due.is("stands no more", b.stands(0), false);
        Due.is("still not", b.stands(1), false);
        Due.fails("none of it is left", Due.STATE, () -> b.undo(0));
        for (int layer = 0; layer < 4; layer++) {
            int shape = b.box(0, layer, 1, 0, 0, 1, 1);
            b.show(2, layer, false);
            Due.is("not visible", b.hit(0, 0), NONE);
            b.undo(2);
            Due.is("visible, when that stands no more", b.hit(0, 0), shape);
            b.undo(0);
        }
    }

    private static void cornersAsTheyWere() {
        Layerboard b = new Layerboard();
        Due.pens(b, 0, 0, 4, 0, 0, 4);
        b.draw(0, 0, 1);
        Due.types(b, "(10,10)(14,10)(10,14)");
        b.trace(0, 0, 2);
        b.paint(1, 0, 7);
        Due.pens(b, 5, 5, 9, 5, 5, 9);
        b.wipe();
        b.undo(1);
        Due.paperIs("as the pen had them", b, 0, "(0,0)(4,0)(0,4)");
        Due.paperIs("as the tape had them", b, 1, "(10,10)(14,10)(10,14)");
        Due.is("one by one, from an empty board", b.of(0, 1), 1);
        Due.is("the pen is not drawn again", b.lift(), 3);
        b.undo(0);
        b.undo(0);
        Due.is("empty", b.shapes(), 0);
    }

    /** Changes of hand 1 that can not be done, once a change of hand 0 is taken back. */
    private static void withoutItsShape() {
        Object[][] without = {{"erase", 1, 0}, {"move", 1, 0, 1, 1, true}, {"turn", 1, 0, 1}, {"mirror", 1, 0, true},
            {"grow", 1, 0, 2}, {"paint", 1, 0, 5}, {"raise", 1, 0, 2}, {"toLayer", 1, 0, 2}, {"tie", 1, 0, 1, 0},
            {"tie", 1, 1, 0, 0}, {"gather", 1, 0b011L}, {"gather", 1, 0b111L}, {"snap", 1, 0}, {"join", 1, 0, 0, 1},
            {"join", 1, 0, 1, 0}};
        for (Object[] change : without) {
            Layerboard b = new Layerboard();
            b.box(0, 0, 1, 10, 10, 4, 4);
            b.box(2, 0, 2, 20, 20, 4, 4);
            b.box(2, 1, 3, 30, 30, 4, 4);
            standsWithoutDoing(b, change);
        }
    }

    private static void withoutItsTies() {
        standsWithoutDoing(untiedOnce(), new Object[] {"untie", 1, 1});
        standsWithoutDoing(gatheredOnce(), new Object[] {"scatter", 1, 1});
        standsWithoutDoing(gatheredOnce(), new Object[] {"spread", 1, 1});
        Layerboard ring = new Layerboard();
        ring.box(2, 0, 1, 0, 0, 4, 4);
        ring.box(2, 0, 1, 9, 9, 4, 4);
        ring.tie(2, 0, 1, 0);
        ring.untie(0, 0);
        standsWithoutDoing(ring, new Object[] {"tie", 1, 1, 0, 0});
    }

    /** Hand 0 makes the room that a change of hand 1 needs. */
    private static void withoutItsRoom() {
        Layerboard turned = movedOnce(-1, 51, 9, 10);
        standsWithoutDoing(turned, new Object[] {"turn", 1, 0, 1});
        Layerboard grown = movedOnce(-1, 51, 5, 5);
        standsWithoutDoing(grown, new Object[] {"grow", 1, 0, 2});
        Layerboard moved = movedOnce(-3, 56, 4, 4);
        standsWithoutDoing(moved, new Object[] {"move", 1, 0, 3, 0, false});
        Layerboard snapped = movedOnce(-2, 56, 4, 4);
        snapped.box(2, 0, 1, 10, 20, 4, 4);
        snapped.tie(2, 0, 2, 0);
        snapped.guide(2, true, 12);
        standsWithoutDoing(snapped, new Object[] {"snap", 1, 2});
        Layerboard spread = movedOnce(1, 39, 10, 4);
        spread.box(2, 0, 1, 20, 10, 10, 4);
        spread.box(2, 0, 1, 25, 20, 10, 4);
        spread.gather(2, 0b1101);
        standsWithoutDoing(spread, new Object[] {"spread", 1, 0});
    }

    private static Layerboard movedOnce(int dx, int left, int wide, int high) {
        Layerboard b = new Layerboard();
        b.box(2, 0, 1, left, 0, wide, high);
        b.move(0, 0, dx, 0, true);
        return b;
    }

    private static Layerboard untiedOnce() {
        Layerboard b = new Layerboard();
        b.box(2, 0, 1, 10, 10, 4, 4);
        b.box(2, 0, 1, 20, 20, 4, 4);
        b.tie(0, 1, 0, 0);
        return b;
    }

    private static Layerboard gatheredOnce() {
        Layerboard b = new Layerboard();
        b.box(2, 0, 1, 10, 10, 4, 4);
        b.box(2, 0, 1, 20, 20, 4, 4);
        b.box(2, 0, 1, 50, 20, 4, 4);
        b.gather(0, 0b111);
        return b;
    }

    private static void standsWithoutDoing(Layerboard b, Object[] change) {
        String what = "taken back ahead of " + change[0] + ", ";
        int number = b.changes();
        made(b, change);
        b.undo(0);
        Due.is(what + "it stands", b.stands(number), true);
        Due.is(what + "it is no shape", b.shapes() >> number & 1, 0);
        String then = boardOf(b);
        Due.is(what + "it can be taken back", b.undo(1), number);
        Due.is(what + "it did nothing", then, boardOf(b));
    }

    /** What nothing but undo brings about is refused when it is called for. */
    private static void onlyUndoLetsItCome() {
        Layerboard b = new Layerboard();
        b.box(0, 0, 1, 0, 0, 4, 4);
        Due.fails("a move that can not be done", Due.STATE, () -> b.move(1, 0, -1, 0, true));
        Due.is("it does not stand", b.changes(), 1);
        b.move(0, 0, 5, 0, true);
        b.move(1, 0, -3, 0, true);
        b.undo(0);
        Due.is("the second move stands, though it can not be done", b.stands(2), true);
        Due.is("and does nothing", b.of(0, 10), 0);
    }

    private static void askedOfThatBoard() {
        Layerboard b = new Layerboard();
        Due.pens(b, 0, 0, 10, 0, 10, 10);
        b.draw(0, 1, 5);
        b.box(1, 1, 2, 20, 20, 4, 4);
        b.paint(2, 0, 9);
        String two = boardOf(b);
        b.grow(1, 0, 2);
        Due.is("the new area", b.area(0, false), 200);
        Due.is("the new cells", b.cell(19, 0), 9);
        Due.is("the new meetings: its corner is the corner of the box", b.meetings(0, 1), 1);
        Due.is("the new points", b.hit(39, 0), 0);
        b.undo(1);
        Due.is("all as it was", boardOf(b), two);
        Due.is("the area", b.area(0, false), 50);
        Due.is("the cells", b.cell(19, 0), 0);
        Due.is("the points", b.hit(39, 0), NONE);
    }

    /**
     * The seed 145 gives 3663934, modulo 65536 that is 59454, by 16 it is 3715, modulo 4 it is 3, the kind;
     * then 3759 gives 234 and the layer 2, 5172 gives 323 and the colour 9, 54109 gives 3381 and x 21,
     * 65018 gives 4063 and y 23, 15899 gives 993 and n 4.
     */
    private static void lots() {
        Layerboard b = new Layerboard();
        b.sample(0, 145, 1);
        Due.is("layer", b.of(0, 0), 2);
        Due.is("colour", b.of(0, 1), 9);
        Due.paperIs("a polygon of the kind 3", b, 0, "(21,23)(29,23)(21,27)");
    }

    /**
     * The greatest seed, 65535, gives 1649726404, modulo 65536 that is 54212: the kind 0; then 36397 gives the
     * layer 2, 42250 the colour 4, 54891 x 30, 23968 y 18 and 35897 n 4.
     */
    private static void seedsOfLots() {
        Layerboard b = new Layerboard();
        b.sample(0, 65535, 1);
        Due.is("layer", b.of(0, 0), 2);
        Due.is("colour", b.of(0, 1), 4);
        Due.paperIs("a box", b, 0, "(30,18)(38,18)(38,22)(30,22)");
        b.sample(0, 35897, 1);
        b.sample(0, 65535, 2);
        Due.paperIs("the seed goes on from shape to shape", b, 3, Due.paper(b, 1));
    }

    private static void bitsOfSets() {
        Layerboard b = new Layerboard();
        b.box(0, 0, 1, 0, 0, 4, 4);
        Due.fillTo(b, 33);
        b.box(0, 0, 1, 1, 1, 4, 4);
        Due.fillTo(b, 58);
        b.box(0, 0, 1, 2, 2, 4, 4);
        long all = 1L | 1L << 33 | 1L << 58;
        Due.is("shapes", b.shapes(), all);
        Due.is("caught", b.caught(0, 0, 60, 60, true), all);
        Due.is("caught by points", b.caught(1, 1, 5, 5, false), all);
        Due.is("caught wholly", b.caught(1, 1, 5, 5, true), 1L << 33 | 1L << 58);
        Due.fails("bit 32 is not bit 0", Due.INDEX, () -> b.gather(0, 1L << 32 | 1L << 33));
        Due.is("gathered", b.gather(0, 1L << 33 | 1L << 58), 59);
        Due.is("one of them", b.of(33, 4), 59);
        Due.is("one of them", b.of(58, 4), 59);
        Due.is("not one of them", b.of(0, 4), NONE);
    }

    private SharedSentences() {
    }
}
