/** "1 Shapes" and "2 Order". */
final class ShapeSentences {
    private static final int NONE = Layerboard.NONE;

    static void tell(Doc d) {
        d.in("1 Shapes");
        d.test(ShapeSentences::xAndY, "A point has an x and a y.");
        d.test(ShapeSentences::threeToEightCorners, "A polygon has 3 to 8 corners");
        d.test(ShapeSentences::cornersOnTheBoard, "A polygon has 3 to 8 corners");
        d.test(ShapeSentences::theLastEdge, "its edges go from each corner");
        d.test(ShapeSentences::edgesAsTheyMayGo, "An edge goes straight across or up");
        d.test(ShapeSentences::cornersOfAnEdge, "its two corners are not the same.");
        d.test(ShapeSentences::cornersTwiceAndCrossings, "Corners may stand twice in it");
        d.test(ShapeSentences::oddAndEven, "A polygon holds a point");
        d.test(ShapeSentences::pointsOnEdges, "A polygon holds a point");
        d.test(ShapeSentences::pointsBesideLeaningEdges, "A polygon holds a point");
        d.test(ShapeSentences::pointsAtTheHeightOfCorners, "A polygon holds a point");
        d.test(ShapeSentences::oneToFourPolygons, "A shape has 1 to 4 polygons");
        d.test(ShapeSentences::fourTimesEightCorners, "A shape has 1 to 4 polygons");
        d.test(ShapeSentences::tableOfSets, "A shape has 1 to 4 polygons");
        d.test(ShapeSentences::tableOfOne, "A shape of one polygon that is drawn");
        d.test(ShapeSentences::frameOfAllCorners, "The frame of a shape is");
        d.test(ShapeSentences::areaOfAllPoints, "The area of a shape is");
        d.test(ShapeSentences::whatAShapeHas, "A shape has a layer, a colour, a key");
        d.in("2 Order");
        d.test(ShapeSentences::byLayersThenKeys, "Shapes are in order by their layers");
        d.test(ShapeSentences::comesToTheTop, "A shape that comes into a layer");
        d.test(ShapeSentences::leastDenominator, "The key between two fractions");
        d.test(ShapeSentences::ofSeveralTheLeast, "The key between two fractions");
        d.test(ShapeSentences::fiftyIsNotAboveFifty, "If its denominator would be above 50");
        d.test(ShapeSentences::anewInTheLayerAlone, "If its denominator would be above 50");
        d.test(ShapeSentences::anewOneUp, "If its denominator would be above 50");
        d.test(() -> uppermostStays(0), "To put a shape one up");
        d.test(ShapeSentences::oneUp, "otherwise its key becomes that between");
        d.test(ShapeSentences::oneDown, "One down");
        d.test(ShapeSentences::toTheTop, "To the top");
        d.test(() -> uppermostStays(2), "To the top");
        d.test(ShapeSentences::toTheBottom, "To the bottom");
    }

    // ---- 1 shapes

    private static void xAndY() {
        Layerboard b = new Layerboard();
        Due.pens(b, 1, 2, 7, 2, 7, 8);
        b.draw(0, 0, 1);
        Due.is("x", b.corner(0, 0, 0, false), 1);
        Due.is("y", b.corner(0, 0, 0, true), 2);
        Due.is("x of the last one", b.corner(0, 0, 2, false), 7);
        Due.is("y of the last one", b.corner(0, 0, 2, true), 8);
    }

    private static void threeToEightCorners() {
        int[][] rows = {{}, {5, 5}, {5, 5, 9, 5}, {5, 5, 9, 5, 5, 9}, {5, 5, 9, 5, 9, 9, 5, 9},
            {0, 0, 4, 0, 4, 4, 2, 4, 0, 2}, {0, 0, 4, 0, 6, 2, 6, 4, 4, 4, 2, 2}, {0, 0, 4, 0, 6, 2, 6, 4, 4, 4, 2, 4, 0, 2},
            {10, 10, 12, 10, 14, 12, 14, 14, 12, 16, 10, 16, 8, 14, 8, 12}};
        for (int many = 0; many <= 8; many++) {
            Layerboard b = new Layerboard();
            Due.pens(b, rows[many]);
            if (many < 3) {
                Due.fails("corners " + many, Due.STATE, () -> b.draw(0, 0, 1));
            } else {
                Due.answers("corners " + many, () -> b.draw(0, 0, 1));
                Due.is("corners", b.corners(0, 0), many);
            }
        }
        Layerboard b = new Layerboard();
        Due.pens(b, rows[8]);
        Due.fails("a ninth", Due.STATE, () -> b.pen(10, 10));
        Due.types(b, "(0,0)(4,0)(0,0)(4,0)(0,0)(4,0)(0,0)(4,0)");
        Due.is("eight on the tape", b.trace(0, 0, 1), 0);
        Due.is("corners", b.corners(0, 0), 8);
        Due.types(b, "(0,0)(4,0)(0,0)(4,0)(0,0)(4,0)(0,0)(4,0)(4,4)");
        Due.fails("nine on the tape", Due.STATE, () -> b.trace(0, 0, 1));
        Due.types(b, "(0,0)(4,0)");
        Due.fails("two on the tape", Due.STATE, () -> b.trace(0, 0, 1));
    }

    private static void cornersOnTheBoard() {
        Layerboard b = new Layerboard();
        Due.is("the whole board", Due.draws(b, 0, 0, 60, 0, 60, 60, 0, 60), 0);
        Due.fails("-1", Due.ARGUMENT, () -> b.pen(-1, 0));
        Due.fails("61", Due.ARGUMENT, () -> b.pen(0, 61));
        Due.types(b, "(0,0)(60,0)(0,60)");
        Due.is("60 on the tape", b.trace(0, 0, 1), 1);
        Due.types(b, "(0,0)(61,0)(0,61)");
        Due.fails("61 on the tape", Due.STATE, () -> b.trace(0, 0, 1));
    }

    private static void theLastEdge() {
        Layerboard b = new Layerboard();
        Due.fails("an edge from the last to the first that may not be", Due.STATE, () -> Due.draws(b, 0, 0, 10, 0, 10, 3));
        Due.fails("an edge in between that may not be", Due.STATE, () -> Due.draws(b, 0, 0, 10, 3, 10, 0));
        Due.fails("a first edge that may not be", Due.STATE, () -> Due.draws(b, 10, 3, 0, 0, 10, 0));
        Due.draws(b, 0, 0, 10, 0, 10, 10);
        Due.is("the last edge shuts it", b.area(0, false), 50);
        Due.is("above the last edge", b.holds(0, 8, 9), false);
        Due.is("below the last edge", b.holds(0, 9, 8), true);
        Due.fails("three in a row, and back", Due.STATE, () -> Due.draws(b, 0, 0, 6, 3, 9, 6));
        Due.is("in the order of the row", Due.draws(b, 0, 0, 10, 10, 10, 0, 0, 10), 1);
        Due.is("not as a box would be", b.holds(1, 10, 3), false);
    }

    /** Each way from -8 to 8 across and up; the two edges that close the triangle may always be. */
    private static void edgesAsTheyMayGo() {
        int[][] steps = {{1, 0}, {0, 1}, {1, 1}, {1, -1}, {2, 1}, {2, -1}, {1, 2}, {1, -2}};
        for (int dx = -8; dx <= 8; dx++) {
            for (int dy = -8; dy <= 8; dy++) {
                boolean may = false;
                for (int[] s : steps) {
                    may |= dx * s[1] == dy * s[0];
                }
                int x = dx == 0 ? 30 + dy : 30 + dx;
                int y = dx == 0 ? 30 : dy == 0 ? 30 + dx : 30;
                Layerboard b = new Layerboard();
                Due.pens(b, 30, 30, 30 + dx, 30 + dy, x, y);
                if (may && (dx != 0 || dy != 0)) {
                    Due.answers(dx + " across and " + dy + " up", () -> b.draw(0, 0, 1));
                } else {
                    Due.fails(dx + " across and " + dy + " up", Due.STATE, () -> b.draw(0, 0, 1));
                }
            }
        }
        Layerboard far = new Layerboard();
        Due.answers("the longest", () -> Due.draws(far, 0, 0, 60, 30, 60, 0));
        Due.fails("one less than twice", Due.STATE, () -> Due.draws(far, 0, 0, 59, 30, 59, 0));
        Due.fails("one more than twice", Due.STATE, () -> Due.draws(far, 0, 0, 59, 29, 59, 0));
        Due.fails("three times", Due.STATE, () -> Due.draws(far, 0, 0, 60, 20, 60, 0));
    }

    private static void cornersOfAnEdge() {
        Layerboard b = new Layerboard();
        Due.fails("the first two", Due.STATE, () -> Due.draws(b, 5, 5, 5, 5, 9, 9));
        Due.fails("the last two", Due.STATE, () -> Due.draws(b, 5, 5, 9, 9, 9, 9));
        Due.fails("the last and the first one", Due.STATE, () -> Due.draws(b, 5, 5, 9, 5, 9, 9, 5, 5));
        Due.fails("all three", Due.STATE, () -> Due.draws(b, 5, 5, 5, 5, 5, 5));
        Due.types(b, "(5,5)(9,9)(9,9)");
        Due.fails("on the tape", Due.STATE, () -> b.trace(0, 0, 1));
    }

    private static void cornersTwiceAndCrossings() {
        Layerboard b = new Layerboard();
        Due.is("a corner twice", Due.draws(b, 10, 10, 20, 10, 20, 20, 10, 10, 0, 10, 0, 0), 0);
        Due.is("there and back", Due.draws(b, 10, 10, 20, 10, 10, 10, 20, 10), 1);
        Due.is("edges that cross", Due.draws(b, 0, 0, 10, 10, 0, 10, 10, 0), 2);
        Due.is("edges on one another", Due.draws(b, 0, 0, 10, 0, 5, 0), 3);
    }

    private static void oddAndEven() {
        Layerboard b = new Layerboard();
        // once round a box, and round a part of it once more: from that part two edges are crossed
        Due.draws(b, 0, 0, 20, 0, 20, 20, 0, 20, 0, 0, 10, 0, 10, 10, 0, 10);
        Due.is("crossed once", b.holds(0, 30, 10), true);
        Due.is("crossed once, above", b.holds(0, 10, 30), true);
        Due.is("crossed twice", b.holds(0, 10, 10), false);
        Due.is("crossed by none", b.holds(0, 50, 10), false);
        Due.draws(b, 2, 2, 6, 2, 6, 6, 2, 6, 2, 2, 6, 2, 6, 6, 2, 6);
        Due.is("round twice", b.holds(1, 8, 8), false);
        // three edges to the right of (31, 31), two of (35, 31), one of (39, 31)
        Due.draws(b, 30, 30, 40, 30, 40, 34, 32, 34, 32, 32, 34, 32, 36, 36, 30, 36);
        Due.is("crossed once", b.holds(2, 62, 61), true);
        Due.is("crossed by none, above", b.holds(2, 79, 70), false);
        Due.is("crossed once, above", b.holds(2, 61, 70), true);
    }

    /** Of the points on its edges a diamond holds those of its left sides, without the lower and the upper corner. */
    private static void pointsOnEdges() {
        Layerboard b = new Layerboard();
        b.diamond(0, 0, 1, 10, 10, 4);
        Due.is("left corner", b.holds(0, 12, 20), true);
        Due.is("lower corner", b.holds(0, 20, 12), false);
        Due.is("right corner", b.holds(0, 28, 20), false);
        Due.is("upper corner", b.holds(0, 20, 28), false);
        for (int i = 1; i < 8; i++) {
            Due.is("left, lower side", b.holds(0, 12 + i, 20 - i), true);
            Due.is("left, upper side", b.holds(0, 12 + i, 20 + i), true);
            Due.is("right, lower side", b.holds(0, 28 - i, 20 - i), false);
            Due.is("right, upper side", b.holds(0, 28 - i, 20 + i), false);
            Due.is("left of it", b.holds(0, 11 + i, 20 - i), false);
            Due.is("within it", b.holds(0, 27 - i, 20 - i), true);
        }
        b.box(0, 0, 1, 30, 30, 2, 2);
        for (int x = 59; x <= 65; x++) {
            for (int y = 59; y <= 65; y++) {
                Due.is("a box", b.holds(1, x, y), x >= 60 && x < 64 && y >= 60 && y < 64);
            }
        }
    }

    /** At the height of a half, the leaning edges have their x at 1 / 4 and at 10 and 1 / 4; at 3 / 2 at 3 / 4. */
    private static void pointsBesideLeaningEdges() {
        Layerboard b = new Layerboard();
        Due.draws(b, 0, 0, 10, 0, 11, 2, 1, 2);
        Due.is("left of the left one", b.holds(0, 0, 1), false);
        Due.is("right of the left one", b.holds(0, 1, 1), true);
        Due.is("left of the right one", b.holds(0, 20, 1), true);
        Due.is("right of the right one", b.holds(0, 21, 1), false);
        Due.is("left, above", b.holds(0, 1, 3), false);
        Due.is("right, above", b.holds(0, 2, 3), true);
        Due.is("on the left one", b.holds(0, 1, 2), true);
        Due.is("on the right one", b.holds(0, 21, 2), false);
        Due.draws(b, 20, 20, 40, 30, 20, 30);
        Due.is("a flat edge, below it", b.holds(1, 43, 41), false);
        Due.is("a flat edge, on it", b.holds(1, 42, 41), false);
        Due.is("a flat edge, above it", b.holds(1, 41, 41), true);
        Due.draws(b, 20, 50, 40, 40, 40, 50);
        Due.is("falling, above it", b.holds(2, 43, 99), true);
        Due.is("falling, on it", b.holds(2, 42, 99), true);
        Due.is("falling, below it", b.holds(2, 41, 99), false);
    }

    /** Just one of an edge's two corners is above: not both, not none, and level edges are never crossed. */
    private static void pointsAtTheHeightOfCorners() {
        Layerboard b = new Layerboard();
        Due.draws(b, 10, 10, 20, 20, 10, 30, 0, 20);
        Due.is("the height of two corners", b.holds(0, 10, 40), true);
        Due.is("beyond them", b.holds(0, 41, 40), false);
        Due.is("left of them, at that height", b.holds(0, 0, 40), true);
        Due.draws(b, 30, 10, 50, 10, 40, 20);
        Due.is("on the level lower edge", b.holds(1, 80, 20), true);
        Due.is("left of it", b.holds(1, 59, 20), false);
        Due.is("its left end", b.holds(1, 60, 20), true);
        Due.is("its right end", b.holds(1, 100, 20), false);
        Due.is("the upper corner", b.holds(1, 80, 40), false);
        // a tooth upward, a tooth downward
        Due.draws(b, 30, 40, 50, 40, 50, 50, 40, 45, 30, 50);
        Due.is("the height of a corner between, left of it", b.holds(2, 61, 90), true);
        Due.is("the corner between: of its two edges none is crossed", b.holds(2, 80, 90), true);
        Due.is("the height of a corner between, right of it", b.holds(2, 81, 90), true);
        Due.is("just below", b.holds(2, 80, 89), true);
    }

    private static void oneToFourPolygons() {
        Layerboard b = new Layerboard();
        b.box(0, 0, 1, 0, 0, 4, 4);
        b.box(0, 0, 1, 9, 9, 4, 4);
        Due.is("one", b.of(0, 5), 1);
        b.join(0, 0, 0, 1);
        b.join(0, 0, 2, 1);
        b.join(0, 0, 3, 0);
        Due.is("two", b.of(2, 5), 2);
        Due.is("three", b.of(3, 5), 3);
        Due.is("four", b.of(4, 5), 4);
        Due.fails("five", Due.STATE, () -> b.join(0, 0, 4, 0));
        Due.is("numbered from 0", b.corner(4, 0, 0, false), 0);
        Due.is("1", b.corner(4, 1, 0, false), 9);
        Due.is("2", b.corner(4, 2, 0, false), 9);
        Due.is("the last one is 3", b.corner(4, 3, 0, false), 0);
        Due.fails("4", Due.INDEX, () -> b.corners(4, 4));
    }

    /** What all calls do with a shape that has as many corners as may be. */
    private static void fourTimesEightCorners() {
        int[] row = {6, 0, 10, 2, 12, 6, 10, 10, 6, 12, 2, 10, 0, 6, 2, 2};
        Layerboard b = new Layerboard();
        for (int i = 0; i < 4; i++) {
            int[] moved = row.clone();
            for (int k = 0; k < 16; k++) {
                moved[k] += 14 * (k % 2 == 0 ? i % 2 : i / 2);
            }
            Due.draws(b, moved);
        }
        int all = b.join(0, 0, b.join(0, 0, 0, 1), b.join(0, 0, 2, 3));
        Due.is("area", b.area(all, false), 384);
        Due.is("meetings with itself", b.meetings(all, all), 32);
        Due.is("caught", b.caught(14, 14, 12, 12, false) >> all & 1, 1);
        b.move(0, all, 1, 2, true);
        b.turn(0, all, 1);
        Due.is("corners mirrored", b.mirror(0, all, true), 32);
        b.grow(0, all, 2);
        b.paint(0, all, 3);
        for (int i = 0; i < 4; i++) {
            for (int k = 0; k < 8; k++) {
                // turned, (x, y) is (26 - y, x), and mirrored (y, x)
                int x = row[2 * k] + 14 * (i % 2);
                int y = row[2 * k + 1] + 14 * (i / 2);
                Due.is("x", b.corner(all, i, k, false), 1 + 2 * y);
                Due.is("y", b.corner(all, i, k, true), 2 + 2 * x);
            }
        }
        Due.is("right", b.of(all, 12), 53);
        Due.is("upper", b.of(all, 13), 54);
        Due.is("four times the area", b.area(all, false), 4 * 384);
        Due.is("a point", b.hit(2 * 40, 2 * 41), all);
        Due.is("a cell", b.cell(40, 41), 3);
        Due.is("a field", b.field(40, 41), 384);
        b.erase(0, 0);
        Due.is("a row", b.row(54 - 24) > 0, true);
        Due.is("a way to it", b.way(1, all, true), 13 + 2);
        Due.is("sound", b.isSound(), true);
    }

    /** Four boxes so that each set of them has a place: bits 0 and 1 by x, bits 2 and 3 by y. */
    private static void tableOfSets() {
        Layerboard b = new Layerboard();
        b.box(0, 0, 1, 2, 0, 4, 8);
        b.box(0, 0, 1, 4, 0, 4, 8);
        b.box(0, 0, 1, 0, 2, 8, 4);
        b.box(0, 0, 1, 0, 4, 8, 4);
        b.join(0, 0, 0, 1);
        b.join(0, 3, 2, 3);
        b.join(0, 2, 4, 5);
        int table = 0;
        int[] places = {1, 3, 7, 5};
        for (int set = 0; set < 16; set++) {
            boolean isHeld = (set & 3) != 0 && Integer.bitCount(set >> 2) != 1;
            table |= isHeld ? 1 << set : 0;
            Due.is("the set " + set, b.holds(6, 2 * places[set & 3] - 1, 2 * places[set >> 2] - 1), isHeld);
        }
        Due.is("the table", b.of(6, 6), table);
        Due.is("the table, by hand", b.of(6, 6), 0b1110_0000_0000_1110);
        Due.is("the points that it holds", b.area(6, false), 6 * 2 + 6 * 2);
    }

    private static void tableOfOne() {
        Layerboard b = new Layerboard();
        Due.draws(b, 0, 0, 4, 0, 0, 4);
        Due.types(b, "(0,0)(4,0)(0,4)");
        b.trace(0, 0, 1);
        b.box(0, 0, 1, 0, 0, 1, 1);
        b.diamond(0, 0, 1, 5, 5, 1);
        b.sample(0, 3, 4);
        for (int i = 0; i < 8; i++) {
            Due.is("the table of " + i, b.of(i, 6), 2);
        }
    }

    private static void frameOfAllCorners() {
        Layerboard b = new Layerboard();
        Due.draws(b, 20, 5, 30, 15, 20, 25, 10, 15);
        int[] frame = {10, 5, 30, 25};
        b.box(0, 0, 1, 40, 1, 3, 58);
        b.join(0, 2, 0, 1);
        b.join(0, 1, 1, 0);
        int[] both = {10, 1, 43, 59};
        for (int i = 0; i < 4; i++) {
            Due.is("side " + i, b.of(0, 10 + i), frame[i]);
            Due.is("less: with all corners, side " + i, b.of(2, 10 + i), both[i]);
            Due.is("of what holds nothing, side " + i, b.of(3, 10 + i), both[i]);
        }
        b.diamond(0, 0, 1, 8, 30, 3);
        b.join(0, 0, 0, 4);
        Due.is("the first corner of the second polygon is the leftmost", b.of(5, 10), 5);
        b.join(0, 0, 4, 0);
        Due.is("the first corner of the first polygon is the leftmost", b.of(6, 10), 5);
        Due.draws(b, 7, 9, 12, 9, 9, 9);
        Due.is("of a flat one, lower", b.of(7, 11), 9);
        Due.is("of a flat one, upper", b.of(7, 13), 9);
        Due.is("of a flat one, right", b.of(7, 12), 12);
    }

    private static void areaOfAllPoints() {
        Layerboard b = new Layerboard();
        b.box(0, 0, 1, 0, 0, 10, 10);
        b.box(0, 0, 1, 5, 5, 10, 10);
        int[] areas = {175, 25, 75, 150};
        for (int how = 0; how < 4; how++) {
            b.join(0, how, 0, 1);
            Due.is("joined " + how, b.area(2 + how, false), areas[how]);
        }
        Due.draws(b, 0, 0, 10, 0, 10, 10, 0, 10, 0, 0, 10, 0, 10, 10, 0, 10);
        Due.is("twice round holds nothing", b.area(6, false), 0);
    }

    private static void whatAShapeHas() {
        Layerboard b = new Layerboard();
        b.box(1, 2, 8, 3, 4, 5, 6);
        int[] alone = {2, 8, NONE, NONE, NONE, 1, 2, 1, 1, 1, 3, 4, 8, 10};
        for (int what = 0; what < 14; what++) {
            Due.is("alone " + what, b.of(0, what), alone[what]);
        }
        b.box(0, 0, 1, 0, 0, 1, 1);
        b.tie(0, 0, 1, 2);
        b.gather(0, 0b11);
        Due.is("a leader", b.of(0, 2), 1);
        Due.is("a kind", b.of(0, 3), 2);
        Due.is("a group", b.of(0, 4), 3);
    }

    // ---- 2 order

    private static Layerboard layerOf(int many) {
        Layerboard b = new Layerboard();
        for (int i = 0; i < many; i++) {
            b.box(0, 1, 1, i, i, 2, 2);
        }
        return b;
    }

    private static void keyIs(String what, Layerboard b, int shape, int top, int bottom) {
        Due.is(what + ", numerator of " + shape, b.of(shape, 7), top);
        Due.is(what + ", denominator of " + shape, b.of(shape, 8), bottom);
    }

    private static void orderIs(String what, Layerboard b, int... want) {
        for (int i = 0; i < want.length; i++) {
            Due.is(what + ", place " + i, b.shapeAt(i), want[i]);
        }
        Due.fails(what + ", no more", Due.INDEX, () -> b.shapeAt(want.length));
    }

    private static void byLayersThenKeys() {
        Layerboard b = new Layerboard();
        b.box(0, 3, 1, 0, 0, 2, 2);
        b.box(0, 1, 1, 0, 0, 2, 2);
        b.box(0, 1, 1, 0, 0, 2, 2);
        b.box(0, 0, 1, 0, 0, 2, 2);
        b.box(0, 1, 1, 0, 0, 2, 2);
        orderIs("by layers", b, 3, 1, 2, 4, 0);
        b.raise(0, 1, 0);
        keyIs("a fraction", b, 1, 5, 2);
        orderIs("by fractions", b, 3, 2, 1, 4, 0);
        keyIs("a key of another layer may be the same", b, 0, 1, 1);
        keyIs("a key of another layer may be the same", b, 3, 1, 1);
        b.toLayer(0, 3, 2);
        orderIs("by layers again", b, 2, 1, 4, 3, 0);
    }

    private static void comesToTheTop() {
        Layerboard b = layerOf(3);
        keyIs("the first one", b, 0, 1, 1);
        keyIs("above 2", b, 2, 3, 1);
        b.raise(0, 0, 0);
        keyIs("between 2 and 3", b, 0, 5, 2);
        b.erase(0, 2);
        b.box(0, 1, 1, 0, 0, 1, 1);
        keyIs("above 5 / 2", b, 5, 3, 1);
        b.join(0, 0, 1, 1);
        keyIs("a joined one, above 3", b, 6, 4, 1);
        b.toLayer(0, 1, 0);
        keyIs("into an empty layer", b, 1, 1, 1);
        b.toLayer(0, 1, 1);
        keyIs("back again, above 4", b, 1, 5, 1);
        b.erase(0, 6);
        b.toLayer(0, 1, 1);
        keyIs("into its own: above the others", b, 1, 4, 1);
        Layerboard c = layerOf(1);
        c.erase(0, 0);
        c.box(0, 1, 1, 0, 0, 1, 1);
        keyIs("none is there any more", c, 2, 1, 1);
        c.toLayer(0, 2, 1);
        keyIs("none but itself", c, 2, 1, 1);
    }

    private static void leastDenominator() {
        Layerboard b = layerOf(4);
        b.raise(0, 2, 1);
        keyIs("between 1 and 2", b, 2, 3, 2);
        b.raise(0, 0, 0);
        keyIs("between 3 / 2 and 2", b, 0, 5, 3);
        b.raise(0, 2, 0);
        keyIs("between 5 / 3 and 2", b, 2, 7, 4);
        b.raise(0, 2, 1);
        keyIs("between 0 and 5 / 3: a whole one", b, 2, 1, 1);
        b.raise(0, 0, 1);
        keyIs("between 0 and 1", b, 0, 1, 2);
        b.raise(0, 1, 1);
        keyIs("between 1 / 2 and 1", b, 1, 2, 3);
        b.raise(0, 3, 1);
        keyIs("between 2 / 3 and 1", b, 3, 3, 4);
        b.raise(0, 3, 1);
        keyIs("between 1 / 2 and 2 / 3", b, 3, 3, 5);
    }

    private static void ofSeveralTheLeast() {
        Layerboard b = layerOf(6);
        b.erase(0, 1);
        b.erase(0, 2);
        b.erase(0, 3);
        b.raise(0, 5, 1);
        keyIs("between 1 and 5: of 2, 3 and 4", b, 5, 2, 1);
        b.erase(0, 0);
        b.erase(0, 5);
        b.box(0, 1, 1, 0, 0, 1, 1);
        b.raise(0, 12, 3);
        keyIs("between 0 and 5: of 1 to 4", b, 12, 1, 1);
        b.raise(0, 4, 1);
        keyIs("between 0 and 1", b, 4, 1, 2);
    }

    /** By turns two shapes go to the bottom: 1 / 2, 1 / 3 and so on. */
    private static Layerboard toOneFiftieth() {
        Layerboard b = new Layerboard();
        b.box(0, 1, 1, 0, 0, 2, 2);
        b.box(0, 1, 1, 5, 5, 2, 2);
        b.box(0, 1, 1, 9, 9, 2, 2);
        b.box(0, 2, 1, 0, 0, 2, 2);
        for (int i = 2; i <= 50; i++) {
            b.raise(0, i % 2 == 0 ? 1 : 0, 3);
        }
        return b;
    }

    private static void fiftyIsNotAboveFifty() {
        Layerboard b = toOneFiftieth();
        keyIs("50 will do", b, 1, 1, 50);
        keyIs("the one above it", b, 0, 1, 49);
        keyIs("the uppermost one", b, 2, 3, 1);
        Due.is("51 is above 50", b.raise(0, 0, 3), 0);
        keyIs("the lowest became 1", b, 1, 1, 1);
        keyIs("the one that is put elsewhere was 2, and lies between 0 and 1", b, 0, 1, 2);
        keyIs("the uppermost one stays 3", b, 2, 3, 1);
        orderIs("the order", b, 0, 1, 2, 3);
    }

    private static void anewInTheLayerAlone() {
        Layerboard b = toOneFiftieth();
        b.box(0, 2, 1, 0, 0, 1, 1);
        b.raise(0, 3, 0);
        keyIs("in another layer", b, 3, 3, 1);
        b.raise(0, 53, 0);
        keyIs("in another layer", b, 53, 4, 1);
        b.raise(0, 0, 3);
        keyIs("the layer itself", b, 0, 1, 2);
        keyIs("the other layer stays, which would begin with 1", b, 3, 3, 1);
        keyIs("the other layer stays", b, 53, 4, 1);
    }

    /** Two shapes by turns go one up, each between the other one and the one with the key 4. */
    private static void anewOneUp() {
        Layerboard b = layerOf(5);
        orderIs("at first", b, 0, 1, 2, 3, 4);
        b.erase(0, 2);
        for (int i = 0; i < 50; i++) {
            Due.is("one up", b.raise(0, i % 2, 0), 1);
            keyIs("one up", b, i % 2, 4 * (i + 1) - 1, i + 1);
        }
        orderIs("just below 4", b, 0, 1, 3, 4);
        Due.is("one up, anew", b.raise(0, 0, 0), 1);
        keyIs("the one above was the second one", b, 1, 2, 1);
        keyIs("it was the first one, and lies between 2 and 3", b, 0, 5, 2);
        keyIs("the third one", b, 3, 3, 1);
        keyIs("the fourth one", b, 4, 4, 1);
    }

    /** A shape with the key 5 / 2 that is the uppermost, above one with the key 2. */
    private static Layerboard fractionOnTop() {
        Layerboard b = layerOf(3);
        b.raise(0, 0, 0);
        b.erase(0, 2);
        return b;
    }

    private static void uppermostStays(int how) {
        Layerboard b = fractionOnTop();
        Due.is("how many are below it", b.raise(0, 0, how), 1);
        keyIs("nothing is done", b, 0, 5, 2);
        Due.is("it is a change all the same", b.changes(), 6);
        Layerboard c = layerOf(1);
        c.box(0, 2, 1, 0, 0, 1, 1);
        Due.is("alone, with another layer above", c.raise(0, 0, how), 0);
        keyIs("nothing is done", c, 0, 1, 1);
    }

    private static void oneUp() {
        Layerboard b = layerOf(3);
        Due.is("over the next one", b.raise(0, 0, 0), 1);
        keyIs("between that and the one above that", b, 0, 5, 2);
        Due.is("over the uppermost one", b.raise(0, 0, 0), 2);
        keyIs("next above 3", b, 0, 4, 1);
        Layerboard c = fractionOnTop();
        Due.is("over a fraction", c.raise(0, 1, 0), 1);
        keyIs("next above 5 / 2", c, 1, 3, 1);
        c.box(0, 2, 1, 0, 0, 1, 1);
        Due.is("over a whole one, with another layer above", c.raise(0, 0, 0), 1);
        keyIs("next above 3", c, 0, 4, 1);
    }

    private static void oneDown() {
        Layerboard b = layerOf(3);
        b.box(0, 0, 1, 0, 0, 1, 1);
        Due.is("under the next one", b.raise(0, 2, 1), 1);
        keyIs("between that and the one below that", b, 2, 3, 2);
        Due.is("under the lowest one", b.raise(0, 2, 1), 0);
        keyIs("between 0 and 1", b, 2, 1, 2);
        Due.is("none is below it", b.raise(0, 2, 1), 0);
        keyIs("nothing is done", b, 2, 1, 2);
        Due.is("under that", b.raise(0, 0, 1), 0);
        keyIs("between 0 and 1 / 2", b, 0, 1, 3);
    }

    private static void toTheTop() {
        Layerboard b = layerOf(4);
        Due.is("over all", b.raise(0, 1, 2), 3);
        keyIs("next above 4", b, 1, 5, 1);
        Layerboard c = fractionOnTop();
        c.box(0, 1, 1, 0, 0, 1, 1);
        c.raise(0, 1, 0);
        c.erase(0, 5);
        keyIs("a fraction", c, 1, 8, 3);
        Due.is("over a fraction", c.raise(0, 0, 2), 1);
        keyIs("next above 8 / 3", c, 0, 3, 1);
    }

    private static void toTheBottom() {
        Layerboard b = layerOf(4);
        Due.is("under all", b.raise(0, 2, 3), 0);
        keyIs("between 0 and 1", b, 2, 1, 2);
        Due.is("the lowest one", b.raise(0, 2, 3), 0);
        keyIs("nothing is done", b, 2, 1, 2);
        Due.is("under that", b.raise(0, 3, 3), 0);
        keyIs("between 0 and 1 / 2", b, 3, 1, 3);
        Layerboard c = layerOf(2);
        c.box(0, 0, 1, 0, 0, 1, 1);
        c.erase(0, 0);
        Due.is("alone, with another layer below", c.raise(0, 1, 3), 0);
        keyIs("nothing is done", c, 1, 2, 1);
    }

    private ShapeSentences() {
    }
}
