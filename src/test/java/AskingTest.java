/** Promises 28 to 45: what is there. */
public final class AskingTest {
    private static final int NONE = Layerboard.NONE;

    private static void promise28Shapes() {
        Layerboard b = new Layerboard();
        Due.is("28 empty", b.shapes(), 0);
        b.box(0, 0, 1, 0, 0, 1, 1);
        b.show(0, 0, false);
        b.box(0, 1, 1, 0, 0, 1, 1);
        Due.is("28 those of hidden layers too", b.shapes(), 0b101);
        b.erase(0, 0);
        Due.is("28 without the erased one", b.shapes(), 0b100);
        Due.fillTo(b, 59);
        b.box(0, 1, 1, 0, 0, 1, 1);
        Due.is("28 bit 59", b.shapes(), 1L << 59 | 0b100);
    }

    private static void promise29ShapeAt() {
        Layerboard b = new Layerboard();
        Due.fails("29 none", Due.INDEX, () -> b.shapeAt(0));
        b.box(0, 2, 1, 0, 0, 1, 1);
        b.box(0, 0, 1, 0, 0, 1, 1);
        b.box(0, 2, 1, 0, 0, 1, 1);
        b.box(0, 0, 1, 0, 0, 1, 1);
        b.raise(0, 2, 3);
        int[] order = {1, 3, 2, 0};
        for (int i = 0; i < 4; i++) {
            Due.is("29 place " + i, b.shapeAt(i), order[i]);
        }
        Due.fails("29 place 4", Due.INDEX, () -> b.shapeAt(4));
        Due.fails("29 place -1", Due.INDEX, () -> b.shapeAt(-1));
    }

    private static void promise30Of() {
        Layerboard b = new Layerboard();
        b.box(2, 3, 9, 5, 6, 7, 8);
        b.box(1, 3, 8, 1, 2, 3, 4);
        b.tie(0, 0, 1, 2);
        b.gather(0, 0b11);
        b.box(1, 3, 8, 1, 2, 3, 4);
        b.gather(0, 0b10011);
        b.raise(0, 1, 3);
        int[] want = {3, 9, 1, 2, 5, 1, 2, 1, 1, 2, 5, 6, 12, 14};
        for (int i = 0; i < want.length; i++) {
            Due.is("30 of " + i, b.of(0, i), want[i]);
        }
        Due.is("30 numerator", b.of(1, 7), 1);
        Due.is("30 denominator", b.of(1, 8), 2);
        b.join(0, 0, 0, 1);
        Due.is("30 polygons", b.of(7, 5), 2);
        Due.is("30 table", b.of(7, 6), 0b1110);
        Due.is("30 frame of all its polygons, left", b.of(7, 10), 1);
        Due.is("30 frame of all its polygons, upper", b.of(7, 13), 14);
        Due.is("30 joined ones follow none", b.of(7, 2), NONE);
        Due.is("30 joined ones are in no group", b.of(7, 4), NONE);
        Due.fails("30 shape", Due.INDEX, () -> b.of(3, 14));
        Due.fails("30 shape", Due.INDEX, () -> b.of(60, 0));
        Due.fails("30 what", Due.ARGUMENT, () -> b.of(0, 14));
        Due.fails("30 what", Due.ARGUMENT, () -> b.of(0, -1));
    }

    private static void promise31Corners() {
        Layerboard b = new Layerboard();
        Due.draws(b, 0, 0, 20, 0, 0, 10);
        b.box(0, 0, 1, 0, 0, 1, 1);
        b.join(0, 0, 0, 1);
        Due.is("31 of the first", b.corners(2, 0), 3);
        Due.is("31 of the second", b.corners(2, 1), 4);
        Due.fails("31 polygon", Due.INDEX, () -> b.corners(2, 2));
        Due.fails("31 polygon", Due.INDEX, () -> b.corners(2, -1));
        Due.fails("31 polygon", Due.INDEX, () -> b.corners(0, 1));
        Due.fails("31 shape", Due.INDEX, () -> b.corners(3, 0));
    }

    private static void promise32Corner() {
        Layerboard b = new Layerboard();
        Due.draws(b, 1, 2, 21, 2, 1, 12);
        Due.is("32 the first corner", b.corner(0, 0, 0, false), 1);
        Due.is("32 x", b.corner(0, 0, 1, false), 21);
        Due.is("32 y", b.corner(0, 0, 2, true), 12);
        Due.fails("32 corner", Due.INDEX, () -> b.corner(0, 0, 3, true));
        Due.fails("32 corner", Due.INDEX, () -> b.corner(0, 0, -1, true));
        Due.fails("32 polygon", Due.INDEX, () -> b.corner(0, 1, 0, true));
        Due.fails("32 shape", Due.INDEX, () -> b.corner(1, 0, 0, true));
    }

    private static void promise33Holds() {
        Layerboard b = new Layerboard();
        b.box(0, 0, 1, 10, 10, 10, 10);
        Due.is("33 left, lower corner", b.holds(0, 20, 20), true);
        Due.is("33 left edge", b.holds(0, 20, 39), true);
        Due.is("33 lower edge", b.holds(0, 39, 20), true);
        Due.is("33 right edge", b.holds(0, 40, 30), false);
        Due.is("33 upper edge", b.holds(0, 30, 40), false);
        Due.is("33 outside", b.holds(0, 19, 30), false);
        Due.draws(b, 0, 0, 20, 0, 0, 10);
        Due.is("33 on a leaning edge", b.holds(1, 20, 10), false);
        Due.is("33 half a step within it", b.holds(1, 19, 10), true);
        Due.draws(b, 0, 0, 10, 10, 10, 0, 0, 10);
        Due.is("33 crossing edges, to the left", b.holds(2, 3, 10), true);
        Due.is("33 crossing edges, below", b.holds(2, 10, 3), false);
        b.join(0, 2, 0, 1);
        Due.is("33 both hold", b.holds(3, 20, 20), true);
        b.move(0, 1, 5, 8, true);
        b.join(0, 2, 0, 1);
        Due.is("33 less", b.holds(5, 20, 20), false);
        Due.is("33 less, the rest", b.holds(5, 39, 39), true);
        Due.fails("33 shape", Due.INDEX, () -> b.holds(4, 121, 0));
        Due.fails("33 x", Due.ARGUMENT, () -> b.holds(0, 121, 0));
        Due.fails("33 x", Due.ARGUMENT, () -> b.holds(0, -1, 0));
        Due.fails("33 y", Due.ARGUMENT, () -> b.holds(0, 0, 121));
        Due.fails("33 y", Due.ARGUMENT, () -> b.holds(0, 0, -1));
        Due.is("33 the uttermost point", b.holds(0, 120, 120), false);
    }

    private static void promise34Hit() {
        Layerboard b = new Layerboard();
        b.box(0, 1, 1, 0, 0, 10, 10);
        b.box(0, 0, 2, 0, 0, 20, 20);
        b.box(0, 1, 3, 5, 5, 10, 10);
        Due.is("34 the uppermost one", b.hit(12, 12), 2);
        Due.is("34 the upper layer", b.hit(2, 2), 0);
        Due.is("34 the lowest one", b.hit(39, 39), 1);
        Due.is("34 none", b.hit(40, 40), NONE);
        b.raise(0, 0, 2);
        Due.is("34 by keys", b.hit(12, 12), 0);
        b.show(0, 1, false);
        Due.is("34 visible ones", b.hit(12, 12), 1);
        // two sides of one leaning edge: just one of them holds each point of it
        Layerboard c = new Layerboard();
        Due.draws(c, 0, 0, 20, 10, 0, 10);
        Due.draws(c, 0, 0, 20, 0, 20, 10);
        for (int y = 0; y < 20; y++) {
            Due.is("34 the edge", c.holds(0, 2 * y, y) ^ c.holds(1, 2 * y, y), true);
        }
        Due.fails("34 x", Due.ARGUMENT, () -> b.hit(-1, 0));
        Due.fails("34 x", Due.ARGUMENT, () -> b.hit(121, 0));
        Due.fails("34 y", Due.ARGUMENT, () -> b.hit(0, -1));
        Due.fails("34 y", Due.ARGUMENT, () -> b.hit(0, 121));
    }

    private static void promise35Caught() {
        Layerboard b = new Layerboard();
        b.box(0, 0, 1, 10, 10, 10, 10);
        b.diamond(0, 1, 1, 15, 15, 5);
        b.box(0, 2, 1, 30, 30, 5, 5);
        b.join(0, 1, 0, 2);
        Due.is("35 wholly, edges counted", b.caught(10, 10, 10, 10, true), 0b0011);
        Due.is("35 not wholly", b.caught(10, 10, 9, 10, true), 0);
        Due.is("35 a frame, even of what holds nothing", b.caught(10, 10, 25, 25, true), 0b1111);
        Due.is("35 points within", b.caught(12, 12, 1, 1, false), 0b0011);
        Due.is("35 the corner of the box, not of the diamond", b.caught(10, 10, 2, 3, false), 0b0001);
        Due.is("35 just at the diamond's edge", b.caught(10, 10, 3, 2, false), 0b0001);
        Due.is("35 over the diamond's edge", b.caught(10, 10, 3, 3, false), 0b0011);
        Due.is("35 in width alone", b.caught(0, 20, 60, 1, true), 0);
        Due.is("35 in height alone", b.caught(20, 0, 1, 60, true), 0);
        Due.is("35 an edge has no area", b.caught(20, 10, 10, 10, false), 0);
        Due.is("35 all that hold points", b.caught(0, 0, 60, 60, false), 0b0111);
        b.show(0, 1, false);
        Due.is("35 visible ones", b.caught(10, 10, 10, 10, true), 0b0001);
        Due.is("35 visible ones", b.caught(12, 12, 1, 1, false), 0b0001);
        int[][] bad = {{0, 0, 0, 1}, {0, 0, 1, 0}, {0, 0, 61, 1}, {0, 0, 1, 61}, {-1, 0, 5, 5}, {0, -1, 5, 5},
            {56, 0, 5, 5}, {0, 56, 5, 5}, {61, 0, 1, 1}, {Integer.MAX_VALUE, 0, 1, 1}, {0, 0, Integer.MAX_VALUE, 1},
            {Integer.MIN_VALUE, 0, 60, 1}};
        for (int[] a : bad) {
            Due.fails("35 bad", Due.ARGUMENT, () -> b.caught(a[0], a[1], a[2], a[3], true));
            Due.fails("35 bad", Due.ARGUMENT, () -> b.caught(a[0], a[1], a[2], a[3], false));
        }
    }

    private static void areaIs(String what, Layerboard b, int shape, int top, int bottom) {
        Due.is(what + ", numerator", b.area(shape, false), top);
        Due.is(what + ", denominator", b.area(shape, true), bottom);
    }

    private static void promise36Area() {
        Layerboard b = new Layerboard();
        b.box(0, 0, 1, 0, 0, 60, 60);
        areaIs("36 all", b, 0, 3600, 1);
        Due.draws(b, 0, 0, 1, 0, 0, 1);
        areaIs("36 half", b, 1, 1, 2);
        Due.draws(b, 0, 0, 5, 0, 9, 0);
        areaIs("36 nothing", b, 2, 0, 1);
        Due.draws(b, 0, 0, 10, 10, 10, 0, 0, 10);
        areaIs("36 crossing edges", b, 3, 50, 1);
        Due.draws(b, 0, 0, 10, 0, 10, 10, 0, 10, 0, 0, 10, 0, 10, 10, 0, 10);
        areaIs("36 round twice", b, 4, 0, 1);
        // two triangles of a third each
        Due.draws(b, 0, 0, 1, 2, 2, 2, 0, 1);
        areaIs("36 edges that cross in thirds", b, 5, 2, 3);
        // they cross at (6/5, 12/5): 9/5 to the left of it, 4/5 to the right
        Due.draws(b, 0, 0, 2, 4, 2, 2, 0, 3);
        areaIs("36 edges that cross in fifths", b, 6, 13, 5);
        Due.fails("36 shape", Due.INDEX, () -> b.area(7, false));
    }

    private static void promise37AreaOf() {
        Layerboard b = new Layerboard();
        b.box(0, 0, 1, 0, 0, 10, 10);
        b.diamond(0, 0, 1, 10, 10, 5);
        // the diamond has 50; a quarter of it, 12 and a half, lies in the box
        int[] tops = {275, 25, 175, 125};
        int[] bottoms = {2, 2, 2, 1};
        for (int how = 0; how < 4; how++) {
            Due.is("37 numerator " + how, b.areaOf(how, 0, 1, false), tops[how]);
            Due.is("37 denominator " + how, b.areaOf(how, 0, 1, true), bottoms[how]);
        }
        Due.is("37 less, the other way", b.areaOf(2, 1, 0, false), 75);
        Due.is("37 with itself, together", b.areaOf(0, 0, 0, false), 100);
        Due.is("37 with itself, either", b.areaOf(3, 0, 0, false), 0);
        Due.is("37 with itself, either", b.areaOf(3, 0, 0, true), 1);
        b.join(0, 3, 0, 1);
        b.join(0, 0, 2, 2);
        Due.is("37 eight polygons", b.areaOf(1, 3, 3, false), 125);
        Due.is("37 eight polygons", b.areaOf(2, 3, 3, false), 0);
        Due.fails("37 shape", Due.INDEX, () -> b.areaOf(4, 4, 0, false));
        Due.fails("37 other", Due.INDEX, () -> b.areaOf(4, 0, 4, false));
        Due.fails("37 how", Due.ARGUMENT, () -> b.areaOf(4, 0, 0, false));
        Due.fails("37 how", Due.ARGUMENT, () -> b.areaOf(-1, 0, 0, false));
    }

    private static void meetingIs(String what, Layerboard b, int place, int... want) {
        for (int i = 0; i < 4; i++) {
            Due.is(what + ", " + i, b.meeting(0, 1, place, i), want[i]);
        }
    }

    private static void promise38Meetings() {
        Layerboard b = new Layerboard();
        b.box(0, 0, 1, 10, 10, 10, 10);
        b.box(0, 0, 1, 15, 15, 10, 10);
        b.box(0, 0, 1, 20, 10, 5, 5);
        b.box(0, 0, 1, 40, 40, 5, 5);
        b.box(0, 0, 1, 10, 20, 10, 3);
        Due.is("38 two", b.meetings(0, 1), 2);
        Due.is("38 the other way", b.meetings(1, 0), 2);
        Due.is("38 none", b.meetings(0, 3), 0);
        Due.is("38 one and itself: its corners", b.meetings(0, 0), 4);
        // (20, 10) is a corner of both, (20, 15) an end of an edge on the other one's edge
        Due.is("38 ends of edges", b.meetings(0, 2), 2);
        Due.is("38 edges that lie on one another have just their ends", b.meetings(0, 4), 2);
        Due.fails("38 shape", Due.INDEX, () -> b.meetings(5, 0));
        Due.fails("38 other", Due.INDEX, () -> b.meetings(0, 5));
        Due.draws(b, 0, 0, 10, 10, 10, 0, 0, 10);
        Due.is("38 one and itself: a crossing too", b.meetings(5, 5), 5);
    }

    private static void promise39Meeting() {
        Layerboard b = new Layerboard();
        Due.draws(b, 0, 0, 20, 0, 0, 10);
        Due.draws(b, 0, 3, 4, 1, 12, 17, 8, 19);
        // from (4, 1) it goes up by 2x - 7, from (8, 19) down by 2x + 3; both meet 10 - x / 2
        Due.is("39 many", b.meetings(0, 1), 3);
        meetingIs("39 at x 0", b, 0, 0, 1, 3, 1);
        meetingIs("39 in fifths", b, 1, 14, 5, 43, 5);
        meetingIs("39 in fifths", b, 2, 34, 5, 33, 5);
        Due.fails("39 place", Due.INDEX, () -> b.meeting(0, 1, 3, 4));
        Due.fails("39 place", Due.INDEX, () -> b.meeting(0, 1, -1, 0));
        Due.fails("39 what", Due.ARGUMENT, () -> b.meeting(0, 1, 0, 4));
        Due.fails("39 what", Due.ARGUMENT, () -> b.meeting(0, 1, 0, -1));
        Due.fails("39 shape", Due.INDEX, () -> b.meeting(2, 1, 0, 4));
        Due.fails("39 other", Due.INDEX, () -> b.meeting(0, -1, 0, 4));
        Layerboard c = new Layerboard();
        c.box(0, 0, 1, 10, 10, 10, 10);
        c.box(0, 0, 1, 10, 10, 10, 10);
        int[][] corners = {{10, 10}, {10, 20}, {20, 10}, {20, 20}};
        Due.is("39 each once", c.meetings(0, 1), 4);
        for (int i = 0; i < 4; i++) {
            Due.is("39 by x", c.meeting(0, 1, i, 0), corners[i][0]);
            Due.is("39 then by y", c.meeting(0, 1, i, 2), corners[i][1]);
        }
        Layerboard d = new Layerboard();
        d.box(0, 0, 1, 59, 59, 1, 1);
        d.box(0, 0, 1, 58, 59, 1, 1);
        Due.is("39 at the upper edge of the board", d.meetings(0, 1), 2);
        meetingIs("39 at the upper edge of the board", d, 1, 59, 1, 60, 1);
        Due.is("39 the last point of the board", d.meeting(0, 0, 3, 0) + d.meeting(0, 0, 3, 2), 120);
    }

    private static void wayIs(String what, Layerboard b, int shape, int other, int bends, int steps) {
        Due.is(what + ", bends", b.way(shape, other, false), bends);
        Due.is(what + ", steps", b.way(shape, other, true), steps);
    }

    private static void promise40Way() {
        Layerboard b = new Layerboard();
        b.box(0, 0, 1, 5, 5, 2, 2);
        b.box(0, 0, 1, 20, 5, 2, 2);
        b.box(0, 0, 1, 40, 30, 2, 2);
        wayIs("40 straight", b, 0, 1, 0, 15);
        wayIs("40 one bend", b, 0, 2, 1, 60);
        wayIs("40 to itself", b, 0, 0, 0, 0);
        b.box(0, 1, 1, 10, 0, 2, 10);
        wayIs("40 around by two bends", b, 0, 1, 2, 25);
        wayIs("40 the other way", b, 1, 0, 2, 25);
        wayIs("40 up and across is free", b, 0, 2, 1, 60);
        b.box(0, 1, 1, 10, 10, 2, 50);
        wayIs("40 along the upper edge of the board, which none holds", b, 0, 1, 2, 125);
        b.show(0, 1, false);
        wayIs("40 by visible ones alone", b, 0, 1, 0, 15);
        wayIs("40 of one that is not visible", b, 3, 1, 1, 15);
        b.show(0, 1, true);
        wayIs("40 over the two themselves", b, 3, 1, 1, 15);
        b.box(0, 2, 1, 3, 3, 5, 5);
        wayIs("40 the first point is held", b, 0, 2, NONE, NONE);
        wayIs("40 the last point is held", b, 2, 0, NONE, NONE);
        wayIs("40 to itself, held", b, 0, 0, NONE, NONE);
        wayIs("40 held by the other one", b, 0, 7, 1, 4);
        Due.fails("40 shape", Due.INDEX, () -> b.way(5, 0, true));
        Due.fails("40 other", Due.INDEX, () -> b.way(0, 6, true));
    }

    private static void promise40Shut() {
        Layerboard b = new Layerboard();
        b.box(0, 0, 1, 5, 5, 2, 2);
        b.box(0, 0, 1, 40, 5, 2, 2);
        b.box(0, 3, 1, 2, 2, 10, 10);
        b.box(0, 3, 1, 3, 3, 8, 8);
        b.box(0, 0, 1, 7, 7, 2, 2);
        b.show(0, 3, false);
        b.join(0, 2, 2, 3);
        wayIs("40 the wall is not visible", b, 0, 1, 0, 35);
        b.toLayer(0, 6, 1);
        wayIs("40 shut in", b, 0, 1, NONE, NONE);
        wayIs("40 shut out", b, 1, 0, NONE, NONE);
        wayIs("40 within the wall", b, 0, 4, 1, 4);
    }

    /** Fewer bends count before fewer steps; a wall leaves its right and upper edge free. */
    private static void promise40Bends() {
        Layerboard b = new Layerboard();
        b.box(0, 0, 1, 0, 0, 1, 1);
        b.box(0, 0, 1, 10, 10, 1, 1);
        b.box(0, 0, 1, 0, 5, 5, 1);
        b.box(0, 0, 1, 6, 5, 40, 1);
        wayIs("40 through the gap at x 5", b, 0, 1, 2, 20);
        b.box(0, 0, 1, 5, 2, 1, 1);
        // 20 steps with four bends would do, but around the long wall there are just two
        wayIs("40 around is longer, with fewer bends", b, 0, 1, 2, 92);
        Layerboard c = new Layerboard();
        c.box(0, 0, 1, 0, 0, 1, 1);
        c.box(0, 0, 1, 59, 0, 1, 1);
        c.box(0, 0, 1, 30, 0, 1, 60);
        wayIs("40 over the upper edge of the board", c, 0, 1, 2, 179);
    }

    private static void promise41Cell() {
        Layerboard b = new Layerboard();
        b.box(0, 0, 3, 0, 0, 10, 10);
        b.box(0, 1, 5, 59, 59, 1, 1);
        Due.draws(b, 0, 20, 20, 20, 0, 30);
        Due.is("41 a cell", b.cell(9, 9), 3);
        Due.is("41 none", b.cell(10, 9), 0);
        Due.is("41 the last one", b.cell(59, 59), 5);
        Due.is("41 its middle counts", b.cell(18, 20), 1);
        Due.is("41 its middle on the edge", b.cell(19, 20), 0);
        b.show(0, 1, false);
        Due.is("41 visible ones", b.cell(59, 59), 0);
        Due.fails("41 x", Due.INDEX, () -> b.cell(60, 0));
        Due.fails("41 x", Due.INDEX, () -> b.cell(-1, 0));
        Due.fails("41 y", Due.INDEX, () -> b.cell(0, 60));
        Due.fails("41 y", Due.INDEX, () -> b.cell(0, -1));
    }

    private static void promise42Row() {
        Layerboard b = new Layerboard();
        Due.is("42 empty", b.row(0), 0);
        b.box(0, 0, 2, 0, 5, 3, 1);
        b.box(0, 1, 7, 1, 5, 1, 1);
        b.box(0, 2, 9, 59, 5, 1, 10);
        Due.is("42 a row", b.row(5), 2 + 14 + 6 + 540);
        Due.is("42 below", b.row(4), 0);
        Due.is("42 again", b.row(5), 2 + 14 + 6 + 540);
        Due.is("42 above", b.row(6), 540);
        b.show(0, 1, false);
        Due.is("42 visible ones", b.row(5), 2 + 4 + 6 + 540);
        Layerboard c = new Layerboard();
        c.box(0, 0, 9, 0, 0, 60, 60);
        Due.is("42 the most", c.row(59), 16470);
        Due.fails("42 y", Due.INDEX, () -> b.row(60));
        Due.fails("42 y", Due.INDEX, () -> b.row(-1));
    }

    private static void promise43Field() {
        Layerboard b = new Layerboard();
        b.box(0, 0, 4, 10, 0, 2, 59);
        Due.is("43 around the end", b.field(0, 0), 3600 - 118);
        b.box(0, 1, 4, 10, 59, 2, 1);
        Due.is("43 to the left", b.field(0, 0), 600);
        Due.is("43 to the right", b.field(12, 30), 2880);
        Due.is("43 two shapes of one colour", b.field(11, 59), 120);
        b.box(0, 2, 5, 9, 9, 1, 1);
        b.box(0, 2, 5, 8, 8, 1, 1);
        Due.is("43 corners do not touch", b.field(9, 9), 1);
        b.box(0, 3, 7, 30, 30, 1, 2);
        b.box(0, 3, 8, 40, 30, 2, 1);
        Due.is("43 from below", b.field(30, 30), 2);
        Due.is("43 from above", b.field(30, 31), 2);
        Due.is("43 from the left", b.field(40, 30), 2);
        Due.is("43 from the right", b.field(41, 30), 2);
        Due.fails("43 x", Due.INDEX, () -> b.field(60, 0));
        Due.fails("43 x", Due.INDEX, () -> b.field(-1, 0));
        Due.fails("43 y", Due.INDEX, () -> b.field(0, 60));
        Due.fails("43 y", Due.INDEX, () -> b.field(0, -1));
    }

    private static void promise44Changes() {
        Layerboard b = new Layerboard();
        b.sample(0, 5, 3);
        Due.is("44 one for each", b.changes(), 3);
        Due.fails("44 a call that throws", Due.STATE, () -> b.untie(0, 0));
        Due.is("44 is none", b.changes(), 3);
        b.undo(0);
        Due.is("44 those taken back too", b.changes(), 3);
        Due.is("44 all", Due.fillTo(b, 60).changes(), 60);
    }

    private static void promise45Stands() {
        Layerboard b = new Layerboard();
        Due.fails("45 none", Due.INDEX, () -> b.stands(0));
        b.box(0, 0, 1, 0, 0, 1, 1);
        b.box(1, 0, 1, 0, 0, 1, 1);
        b.undo(0);
        Due.is("45 taken back", b.stands(0), false);
        Due.is("45 stands", b.stands(1), true);
        Due.fails("45 not made", Due.INDEX, () -> b.stands(2));
        Due.fails("45 -1", Due.INDEX, () -> b.stands(-1));
        Due.fillTo(b, 60);
        Due.is("45 the last one", b.stands(59), true);
        Due.fails("45 60", Due.INDEX, () -> b.stands(60));
    }

    public static void main(String[] args) {
        promise28Shapes();
        promise29ShapeAt();
        promise30Of();
        promise31Corners();
        promise32Corner();
        promise33Holds();
        promise34Hit();
        promise35Caught();
        promise36Area();
        promise37AreaOf();
        promise38Meetings();
        promise39Meeting();
        promise40Way();
        promise40Shut();
        promise40Bends();
        promise41Cell();
        promise42Row();
        promise43Field();
        promise44Changes();
        promise45Stands();
        Due.finish("AskingTest");
    }
}
