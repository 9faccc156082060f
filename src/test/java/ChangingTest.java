/** Promises 10 to 17: moving and changing. */
public final class ChangingTest {
    private static Layerboard threeBoxes() {
        Layerboard b = new Layerboard();
        b.box(0, 0, 1, 0, 0, 4, 4);
        b.box(0, 0, 2, 10, 10, 4, 4);
        b.box(0, 0, 3, 20, 20, 4, 4);
        return b;
    }

    private static void placeIs(String what, Layerboard b, int shape, int left, int lower) {
        Due.is(what + ", left", b.of(shape, 10), left);
        Due.is(what + ", lower", b.of(shape, 11), lower);
    }

    private static void promise10Move() {
        Layerboard b = threeBoxes();
        Due.is("10 alone", b.move(0, 0, 3, 2, true), 1);
        placeIs("10 alone", b, 0, 3, 2);
        Due.is("10 by nothing", b.move(0, 0, 0, 0, false), 0);
        b.gather(0, 3);
        Due.is("10 a group", b.move(0, 0, 1, 1, false), 2);
        placeIs("10 a group", b, 1, 11, 11);
        Due.is("10 one of a group", b.move(0, 0, 1, 1, true), 1);
        placeIs("10 one of a group", b, 1, 11, 11);
        Due.is("10 to the edge", b.move(0, 2, 36, 36, false), 1);
        Due.is("10 back", b.move(0, 2, -56, -56, false), 1);
        Due.fails("10 over the left edge", Due.STATE, () -> b.move(0, 2, -1, 0, false));
        Due.fails("10 over the lower edge", Due.STATE, () -> b.move(0, 2, 0, -1, false));
        Due.fails("10 over the right edge", Due.STATE, () -> b.move(0, 2, 57, 0, false));
        Due.fails("10 over the upper edge", Due.STATE, () -> b.move(0, 2, 0, 57, false));
        placeIs("10 nothing moved", b, 2, 0, 0);
    }

    private static void promise10Follow() {
        Layerboard b = threeBoxes();
        b.box(0, 0, 4, 30, 30, 4, 4);
        b.box(0, 0, 4, 40, 40, 4, 4);
        b.tie(0, 1, 0, 1);
        b.tie(0, 2, 1, 0);
        b.tie(0, 3, 1, 2);
        b.tie(0, 4, 0, 0);
        Due.is("10 those that follow", b.move(0, 0, 5, 7, true), 4);
        placeIs("10 the leader", b, 0, 5, 7);
        placeIs("10 across alone", b, 1, 15, 10);
        placeIs("10 as its leader does", b, 2, 25, 20);
        placeIs("10 up alone, of what goes across alone", b, 3, 30, 30);
        placeIs("10 in both directions", b, 4, 45, 47);
        Due.is("10 the leader stays", b.move(0, 1, 1, 1, true), 3);
        placeIs("10 up alone", b, 3, 30, 31);
        placeIs("10 the leader stays", b, 0, 5, 7);
        Due.fails("10 a follower would leave", Due.STATE, () -> b.move(0, 0, 0, 11, true));
        placeIs("10 nothing moved", b, 0, 5, 7);
        Due.is("10 up alone moves no other across", b.move(0, 0, 0, 9, true), 2);
        b.gather(0, 1 | 2);
        Due.is("10 a follower of the group moves once", b.move(0, 1, 1, -1, false), 5);
        placeIs("10 and not as it is tied", b, 1, 17, 10);
    }

    private static void promise10Wrong() {
        Layerboard b = threeBoxes();
        Layerboard far = new Layerboard();
        far.box(0, 0, 1, 60 - 1, 60 - 1, 1, 1);
        far.box(0, 0, 1, 0, 0, 1, 1);
        Due.is("10 by -59", far.move(0, 0, -59, -59, true), 1);
        Due.fails("10 -60 is no wrong argument", Due.STATE, () -> far.move(0, 0, -60, 0, true));
        Due.fails("10 -60 is no wrong argument", Due.STATE, () -> far.move(0, 0, 0, -60, true));
        Due.fails("10 60 is no wrong argument", Due.STATE, () -> far.move(0, 0, 60, 0, true));
        Due.fails("10 60 is no wrong argument", Due.STATE, () -> far.move(0, 0, 0, 60, true));
        Due.fails("10 hand", Due.INDEX, () -> b.move(3, 0, 61, 0, true));
        Due.fails("10 shape", Due.INDEX, () -> b.move(0, 3, 61, 0, true));
        int[] bad = {-61, 61, Integer.MIN_VALUE, Integer.MAX_VALUE};
        for (int d : bad) {
            Due.fails("10 dx", Due.ARGUMENT, () -> b.move(0, 0, d, 0, true));
            Due.fails("10 dy", Due.ARGUMENT, () -> b.move(0, 0, 0, d, true));
        }
        Due.fails("10 far", Due.STATE, () -> b.move(0, 0, 60, 60, true));
        Due.is("10 no change", b.changes(), 3);
        Due.fillTo(b, 60);
        Due.fails("10 no more changes", Due.STATE, () -> b.move(0, 0, 0, 0, true));
        Due.fails("10 dx first", Due.ARGUMENT, () -> b.move(0, 0, 61, 0, true));
    }

    private static void promise11Turn() {
        Layerboard b = new Layerboard();
        Due.draws(b, 10, 20, 18, 20, 10, 24);
        Due.is("11 one quarter, the right", b.turn(0, 0, 1), 14);
        Due.paperIs("11 one quarter", b, 0, "(14,20)(14,28)(10,20)");
        Due.is("11 two quarters, the right", b.turn(0, 0, 2), 14);
        Due.paperIs("11 two quarters", b, 0, "(10,28)(10,20)(14,28)");
        Due.is("11 three quarters, the right", b.turn(0, 0, 3), 18);
        Due.paperIs("11 three quarters", b, 0, "(18,24)(10,24)(18,20)");
        b.box(0, 0, 1, 50, 0, 10, 20);
        b.tie(0, 0, 4, 0);
        Due.is("11 half round may pass the edge", b.turn(0, 4, 2), 60);
        Due.fails("11 over the right", Due.STATE, () -> b.turn(0, 4, 1));
        Due.fails("11 over the right", Due.STATE, () -> b.turn(0, 4, 3));
        b.box(0, 0, 1, 0, 50, 20, 10);
        Due.fails("11 over the upper side", Due.STATE, () -> b.turn(0, 7, 1));
        b.box(0, 0, 1, 40, 45, 15, 15);
        Due.is("11 just to the upper side", b.turn(0, 8, 1), 55);
        b.box(0, 0, 1, 45, 5, 10, 15);
        Due.is("11 just to the right", b.turn(0, 10, 3), 60);
        placeIs("11 nothing follows", b, 0, 10, 20);
        Due.fails("11 hand", Due.INDEX, () -> b.turn(-1, 0, 0));
        Due.fails("11 shape", Due.INDEX, () -> b.turn(0, 1, 0));
        Due.fails("11 quarters", Due.ARGUMENT, () -> b.turn(0, 4, 0));
        Due.fails("11 quarters", Due.ARGUMENT, () -> b.turn(0, 4, 4));
        Due.fillTo(b, 60);
        Due.fails("11 no more changes", Due.STATE, () -> b.turn(0, 0, 1));
    }

    private static void promise12Mirror() {
        Layerboard b = new Layerboard();
        Due.draws(b, 10, 20, 18, 20, 10, 24);
        Due.is("12 corners", b.mirror(0, 0, true), 3);
        Due.paperIs("12 left and right", b, 0, "(18,20)(10,20)(18,24)");
        Due.is("12 corners", b.mirror(0, 0, false), 3);
        Due.paperIs("12 lower and upper side", b, 0, "(18,24)(10,24)(18,20)");
        b.box(0, 0, 1, 0, 0, 2, 2);
        b.join(0, 0, 0, 3);
        Due.is("12 corners, together", b.mirror(0, 4, true), 7);
        Due.paperIs("12 within the frame of both", b, 4, "(0,24)(8,24)(0,20);(18,0)(16,0)(16,2)(18,2)");
        b.tie(0, 3, 4, 0);
        b.mirror(0, 4, false);
        placeIs("12 nothing follows", b, 3, 0, 0);
        Due.fails("12 hand", Due.INDEX, () -> b.mirror(3, 0, true));
        Due.fails("12 shape", Due.INDEX, () -> b.mirror(0, 1, true));
        Due.fillTo(b, 60);
        Due.fails("12 no more changes", Due.STATE, () -> b.mirror(0, 0, true));
    }

    private static void promise13Grow() {
        Layerboard b = new Layerboard();
        Due.draws(b, 10, 20, 18, 20, 10, 24);
        Due.is("13 the right", b.grow(0, 0, 2), 26);
        Due.paperIs("13 twice", b, 0, "(10,20)(26,20)(10,28)");
        Due.is("13 to the edge", b.grow(0, 0, 3), 58);
        Due.fails("13 over the edge", Due.STATE, () -> b.grow(0, 0, 2));
        b.box(0, 0, 1, 0, 45, 2, 5);
        Due.is("13 just to the upper edge", b.grow(0, 3, 3), 6);
        Due.fails("13 over the upper edge", Due.STATE, () -> b.grow(0, 3, 4));
        Due.fails("13 hand", Due.INDEX, () -> b.grow(3, 0, 1));
        Due.fails("13 shape", Due.INDEX, () -> b.grow(0, 1, 1));
        Due.fails("13 times", Due.ARGUMENT, () -> b.grow(0, 0, 1));
        Due.fails("13 times", Due.ARGUMENT, () -> b.grow(0, 0, 5));
        b.box(0, 0, 1, 0, 0, 1, 1);
        b.tie(0, 5, 3, 0);
        b.undo(0);
        Due.is("13 four times", b.grow(0, 5, 4), 4);
        b.box(0, 0, 1, 40, 0, 10, 5);
        Due.is("13 just to the right edge", b.grow(0, 8, 2), 60);
        int eight = Due.draws(b, 1, 0, 2, 0, 4, 1, 5, 3, 4, 5, 2, 6, 0, 5, 0, 2);
        b.grow(0, eight, 3);
        Due.paperIs("13 eight corners", b, eight, "(3,0)(6,0)(12,3)(15,9)(12,15)(6,18)(0,15)(0,6)");
        Due.fillTo(b, 60);
        Due.fails("13 no more changes", Due.STATE, () -> b.grow(0, 5, 2));
    }

    private static void promise14Paint() {
        Layerboard b = threeBoxes();
        Due.is("14 the colour before", b.paint(1, 0, 9), 1);
        Due.is("14 the colour now", b.of(0, 1), 9);
        Due.is("14 whose shape it is stays", b.of(0, 9), 0);
        Due.is("14 again", b.paint(1, 0, 1), 9);
        Due.fails("14 hand", Due.INDEX, () -> b.paint(3, 0, 0));
        Due.fails("14 shape", Due.INDEX, () -> b.paint(0, 3, 0));
        Due.fails("14 colour", Due.ARGUMENT, () -> b.paint(0, 0, 0));
        Due.fails("14 colour", Due.ARGUMENT, () -> b.paint(0, 0, 10));
        Due.fillTo(b, 60);
        Due.fails("14 no more changes", Due.STATE, () -> b.paint(0, 0, 1));
        Due.fails("14 colour first", Due.ARGUMENT, () -> b.paint(0, 0, 10));
    }

    private static void keyIs(String what, Layerboard b, int shape, int top, int bottom) {
        Due.is(what + ", numerator", b.of(shape, 7), top);
        Due.is(what + ", denominator", b.of(shape, 8), bottom);
    }

    private static void promise15Raise() {
        Layerboard b = threeBoxes();
        b.box(0, 1, 3, 20, 20, 4, 4);
        Due.is("15 one up", b.raise(0, 0, 0), 1);
        keyIs("15 one up", b, 0, 5, 2);
        Due.is("15 one up, over the last one", b.raise(0, 0, 0), 2);
        keyIs("15 one up, over the last one", b, 0, 4, 1);
        Due.is("15 one up, at the top", b.raise(0, 0, 0), 2);
        keyIs("15 one up, at the top", b, 0, 4, 1);
        Due.is("15 one down", b.raise(0, 0, 1), 1);
        keyIs("15 one down", b, 0, 5, 2);
        Due.is("15 one down, under the first one", b.raise(0, 0, 1), 0);
        keyIs("15 one down, under the first one", b, 0, 1, 1);
        Due.is("15 one down, at the bottom", b.raise(0, 0, 1), 0);
        keyIs("15 one down, at the bottom", b, 0, 1, 1);
        Due.is("15 to the top", b.raise(0, 1, 2), 2);
        keyIs("15 to the top", b, 1, 4, 1);
        Due.is("15 to the top again", b.raise(0, 1, 2), 2);
        keyIs("15 to the top again", b, 1, 4, 1);
        Due.is("15 to the bottom", b.raise(0, 1, 3), 0);
        keyIs("15 to the bottom", b, 1, 1, 2);
        Due.is("15 to the bottom again", b.raise(0, 1, 3), 0);
        keyIs("15 to the bottom again", b, 1, 1, 2);
        Due.is("15 alone in its layer", b.raise(0, 3, 2), 0);
        keyIs("15 alone in its layer", b, 3, 1, 1);
        Due.fails("15 hand", Due.INDEX, () -> b.raise(3, 0, 4));
        Due.fails("15 shape", Due.INDEX, () -> b.raise(0, 59, 4));
        Due.fails("15 how", Due.ARGUMENT, () -> b.raise(0, 0, 4));
        Due.fails("15 how", Due.ARGUMENT, () -> b.raise(0, 0, -1));
        Due.fillTo(b, 60);
        Due.fails("15 no more changes", Due.STATE, () -> b.raise(0, 0, 0));
    }

    /** Whole numbers are next above a fraction too; below the lowest, denominators grow by 1 each time. */
    private static void promise15Keys() {
        Layerboard b = threeBoxes();
        b.raise(0, 0, 0);
        b.erase(0, 2);
        Due.is("15 over a fraction", b.raise(0, 1, 0), 1);
        keyIs("15 over a fraction", b, 1, 3, 1);
        Layerboard c = new Layerboard();
        c.box(0, 2, 1, 0, 0, 1, 1);
        c.box(0, 2, 1, 0, 0, 1, 1);
        for (int i = 2; i <= 50; i++) {
            Due.is("15 to the bottom", c.raise(0, i % 2 == 0 ? 1 : 0, 3), 0);
            keyIs("15 to the bottom", c, i % 2 == 0 ? 1 : 0, 1, i);
        }
        Due.is("15 no key is left", c.raise(0, 0, 3), 0);
        keyIs("15 numbered anew, below the other one", c, 0, 1, 2);
        keyIs("15 numbered anew, the other one", c, 1, 1, 1);
    }

    /** Two shapes go by turns between the third one and each other, and the keys draw near to 2. */
    private static void promise15Anew() {
        Layerboard b = threeBoxes();
        b.box(0, 0, 4, 30, 30, 4, 4);
        b.raise(0, 0, 0);
        keyIs("15 between 2 and 3", b, 0, 5, 2);
        int up = 3;
        for (int i = 0; i < 48; i++) {
            int mover = i % 2 == 0 ? 2 : 0;
            Due.is("15 one down", b.raise(0, mover, 1), 1);
            keyIs("15 one down", b, mover, 2 * up + 1, up);
            up++;
        }
        Due.is("15 one down, no key is left", b.raise(0, 2, 1), 1);
        keyIs("15 the lowest one", b, 1, 1, 1);
        keyIs("15 found anew", b, 2, 3, 2);
        keyIs("15 the one above", b, 0, 2, 1);
        keyIs("15 the uppermost one", b, 3, 4, 1);
    }

    private static void promise16ToLayer() {
        Layerboard b = threeBoxes();
        Due.is("16 the layer before", b.toLayer(0, 0, 3), 0);
        keyIs("16 the first there", b, 0, 1, 1);
        Due.is("16 the layer before", b.toLayer(0, 1, 3), 0);
        keyIs("16 to the top", b, 1, 2, 1);
        Due.is("16 its own layer", b.toLayer(0, 0, 3), 3);
        keyIs("16 to the top of its own", b, 0, 3, 1);
        Due.is("16 its own layer, at the top", b.toLayer(0, 0, 3), 3);
        keyIs("16 above the others there", b, 0, 3, 1);
        Due.is("16 alone in its own", b.toLayer(0, 2, 0), 0);
        keyIs("16 alone in its own", b, 2, 1, 1);
        b.raise(0, 0, 1);
        keyIs("16 down to", b, 0, 1, 1);
        b.raise(0, 1, 1);
        keyIs("16 down to", b, 1, 1, 2);
        b.toLayer(0, 2, 3);
        keyIs("16 above 1", b, 2, 2, 1);
        Due.fails("16 hand", Due.INDEX, () -> b.toLayer(3, 0, 0));
        Due.fails("16 shape", Due.INDEX, () -> b.toLayer(0, 3, 0));
        Due.fails("16 layer", Due.INDEX, () -> b.toLayer(0, 0, 4));
        Due.fails("16 layer", Due.INDEX, () -> b.toLayer(0, 0, -1));
        Due.fillTo(b, 60);
        Due.fails("16 no more changes", Due.STATE, () -> b.toLayer(0, 0, 0));
        Due.fails("16 layer first", Due.INDEX, () -> b.toLayer(0, 0, 4));
    }

    private static void promise17Show() {
        Layerboard b = threeBoxes();
        Due.is("17 how many it has", b.show(1, 0, false), 3);
        Due.is("17 not visible", b.hit(1, 1), Layerboard.NONE);
        Due.is("17 still there", b.shapes(), 7);
        Due.is("17 again", b.show(1, 0, true), 3);
        Due.is("17 visible", b.hit(1, 1), 0);
        Due.is("17 an empty one", b.show(1, 3, false), 0);
        b.box(0, 3, 1, 40, 40, 2, 2);
        Due.is("17 a shape that comes later", b.hit(81, 81), Layerboard.NONE);
        Due.fails("17 hand", Due.INDEX, () -> b.show(-1, 0, true));
        Due.fails("17 layer", Due.INDEX, () -> b.show(0, -1, true));
        Due.fails("17 layer", Due.INDEX, () -> b.show(0, 4, true));
        Due.fillTo(b, 60);
        Due.fails("17 no more changes", Due.STATE, () -> b.show(0, 0, true));
    }

    public static void main(String[] args) {
        promise10Move();
        promise10Follow();
        promise10Wrong();
        promise11Turn();
        promise12Mirror();
        promise13Grow();
        promise14Paint();
        promise15Raise();
        promise15Keys();
        promise15Anew();
        promise16ToLayer();
        promise17Show();
        Due.finish("ChangingTest");
    }
}
