import java.util.ArrayDeque;
import java.util.Arrays;
import java.util.Random;

/** Promises 28 to 51: what is there, and texts. */
final class QuestionSentences {
    private static final int NONE = Layerboard.NONE;

    static void tell(Doc d) {
        tellShapes(d);
        tellPoints(d);
        tellPicture(d);
        tellTexts(d);
    }

    private static void tellShapes(Doc d) {
        d.in("shapes");
        d.test(QuestionSentences::shapesThatAreThere, "Returns the shapes that are there.");
        d.in("shapeAt");
        d.test(QuestionSentences::shapesByOrder, "Returns a shape by the order.");
        d.test(() -> Clauses.holdArgument("shapeAt", 0), "`place`: from 0, the lowest one");
        d.refusals("shapeAt", Due.INDEX);
        d.in("of");
        d.test(QuestionSentences::tellsOfAShape, "Tells something of a shape.", "`what`: 0 its layer", "1 its colour",
                "9 the hand that made it");
        d.test(QuestionSentences::tellsLeaders, "2 its leader, NONE without");
        d.test(QuestionSentences::tellsKinds, "3 the kind of its tie, NONE without");
        d.test(QuestionSentences::tellsGroups, "4 its outermost group, NONE without");
        d.test(QuestionSentences::tellsPolygons, "5 how many polygons it has", "6 its table");
        d.test(QuestionSentences::tellsKeys, "7 the numerator of its key");
        d.test(QuestionSentences::tellsFrames, "10 to 13 left, lower, right, upper");
        d.refusals("of", Due.INDEX, Due.ARGUMENT);
        d.in("corners");
        d.test(QuestionSentences::countsCorners, "Returns how many corners");
        d.refusals("corners", Due.INDEX);
        d.in("corner");
        d.test(QuestionSentences::tellsCorners, "Returns the x or the y of a corner.");
        d.refusals("corner", Due.INDEX);
    }

    private static void tellPoints(Doc d) {
        d.in("holds");
        d.test(QuestionSentences::holdsHalves, "Tells whether a shape holds a point, told in halves");
        d.refusals("holds", Due.INDEX, Due.ARGUMENT);
        d.in("hit");
        d.test(QuestionSentences::hitsTheUppermost, "Returns the uppermost visible shape");
        d.test(QuestionSentences::hitsNone, "NONE without one.");
        d.refusals("hit", Due.ARGUMENT);
        d.in("caught");
        d.test(QuestionSentences::caughtWholly, "Returns the visible shapes that a frame catches");
        d.test(QuestionSentences::caughtByArea, "Returns the visible shapes that a frame catches");
        d.test(QuestionSentences::caughtIfVisible, "Returns the visible shapes that a frame catches");
        d.test(QuestionSentences::framesThatMayBe, "Throws `IllegalArgumentException`");
        d.refusals("caught", Due.ARGUMENT);
        d.in("area");
        d.test(QuestionSentences::areas, "Returns the area of a shape.");
        d.test(QuestionSentences::topsAndBottoms, "`below`: false for the numerator");
        d.refusals("area", Due.INDEX);
        d.in("areaOf");
        d.test(QuestionSentences::areasOfTwo, "Returns the area of what two shapes would make");
        d.test(() -> Clauses.holdArgument("areaOf", 0), "`how`");
        d.test(QuestionSentences::topsAndBottomsOfTwo, "`below`: likewise");
        d.refusals("areaOf", Due.INDEX, Due.ARGUMENT);
        d.in("meetings");
        d.test(QuestionSentences::countsMeetings, "Returns in how many points two shapes meet.");
        d.refusals("meetings", Due.INDEX);
        d.in("meeting");
        d.test(QuestionSentences::tellsMeetings, "Tells a point in which two shapes meet.", "`what`: 0 the numerator of x");
        d.test(() -> Clauses.holdArgument("meeting", 3), "`what`: 0 the numerator of x");
        d.test(QuestionSentences::placesOfMeetings, "Throws `IndexOutOfBoundsException`");
        d.refusals("meeting", Due.INDEX, Due.ARGUMENT);
    }

    private static void tellPicture(Doc d) {
        d.in("way");
        d.test(QuestionSentences::ways, "Returns how many bends the way");
        d.test(QuestionSentences::waysRoundWalls, "Returns how many bends the way");
        d.test(QuestionSentences::withoutAWay, "NONE without a way.");
        d.refusals("way", Due.INDEX);
        d.in("cell");
        d.test(QuestionSentences::cells, "Returns the colour of a cell.");
        d.refusals("cell", Due.INDEX);
        d.in("row");
        d.test(QuestionSentences::rows, "Returns the sum of the colours of a row");
        d.test(QuestionSentences::rowsOfCells, "Returns the sum of the colours of a row");
        d.refusals("row", Due.INDEX);
        d.in("field");
        d.test(QuestionSentences::fields, "Returns how many cells the field of a cell has.");
        d.test(QuestionSentences::fieldsOfCells, "Returns how many cells the field of a cell has.");
        d.refusals("field", Due.INDEX);
        d.in("changes");
        d.test(QuestionSentences::countsChanges, "Returns how many changes were made");
        d.in("stands");
        d.test(QuestionSentences::tellsWhatStands, "Tells whether a change stands.");
        d.refusals("stands", Due.INDEX);
    }

    private static void tellTexts(Doc d) {
        d.in("type");
        d.test(QuestionSentences::types, "Puts a sign behind the tape.", "Returns how many it has then.");
        d.refusals("type", Due.ARGUMENT, Due.STATE);
        d.in("wipe");
        d.test(QuestionSentences::wipes, "Wipes the tape", "returns how many signs it had.");
        d.in("fault");
        d.test(QuestionSentences::faults, "Returns the fault of the tape");
        d.test(QuestionSentences::noFault, "NONE if it has none.");
        d.in("paper");
        d.test(QuestionSentences::papers, "Tells the paper of a shape into the out.", "Returns how many signs it has.");
        d.refusals("paper", Due.INDEX);
        d.in("out");
        d.test(QuestionSentences::outs, "Returns a sign of the out.");
        d.refusals("out", Due.INDEX);
        d.in("isSound");
        d.test(QuestionSentences::sound, "Tells whether all is sound", "always true.");
    }

    // ---- shapes

    private static void shapesThatAreThere() {
        Layerboard b = new Layerboard();
        Due.is("none", b.shapes(), 0);
        b.box(0, 0, 1, 0, 0, 1, 1);
        b.show(0, 0, false);
        b.box(1, 1, 1, 0, 0, 1, 1);
        Due.is("also one that is not visible", b.shapes(), 0b101);
        b.gather(0, 0b101);
        Due.is("no group", b.shapes(), 0b101);
        b.erase(0, 0);
        Due.is("none that is erased", b.shapes(), 0b100);
        b.undo(0);
        Due.is("again", b.shapes(), 0b101);
        b.undo(1);
        Due.is("none that is taken back", b.shapes(), 0b001);
        Due.fillTo(b, 59);
        b.box(0, 0, 1, 0, 0, 1, 1);
        Due.is("the last bit", b.shapes(), 1L << 59 | 1);
    }

    private static void shapesByOrder() {
        Layerboard b = new Layerboard();
        Due.fails("none", Due.INDEX, () -> b.shapeAt(0));
        for (int layer = 3; layer >= 0; layer--) {
            b.box(0, layer, 1, 0, 0, 1, 1);
            b.box(0, layer, 1, 0, 0, 1, 1);
        }
        b.raise(0, 0, 2);
        int[] order = {6, 7, 4, 5, 2, 3, 1, 0};
        for (int i = 0; i < 8; i++) {
            Due.is("place " + i, b.shapeAt(i), order[i]);
        }
        Due.fails("place 8", Due.INDEX, () -> b.shapeAt(8));
        Due.fails("place -1", Due.INDEX, () -> b.shapeAt(-1));
        b.erase(0, 6);
        Due.is("the lowest one that is left", b.shapeAt(0), 7);
        Due.fails("place 7", Due.INDEX, () -> b.shapeAt(7));
    }

    private static void tellsOfAShape() {
        for (int hand = 0; hand < 3; hand++) {
            Layerboard b = new Layerboard();
            b.show(0, 0, true);
            b.box(hand, hand + 1, hand + 7, 0, 0, 1, 1);
            b.paint(0, 1, hand + 6);
            b.move(1, 1, 1, 1, true);
            Due.is("layer", b.of(1, 0), hand + 1);
            Due.is("colour", b.of(1, 1), hand + 6);
            Due.is("the hand that made it", b.of(1, 9), hand);
            b.join(2 - hand, 0, 1, 1);
            Due.is("the hand that joined it", b.of(4, 9), 2 - hand);
            b.toLayer(0, 1, 0);
            Due.is("another layer", b.of(1, 0), 0);
        }
        Layerboard b = new Layerboard();
        b.box(0, 0, 1, 0, 0, 1, 1);
        for (int wrong : new int[] {-1, 14, 15}) {
            Due.fails("what " + wrong, Due.ARGUMENT, () -> b.of(0, wrong));
        }
    }

    private static void tellsLeaders() {
        Layerboard b = new Layerboard();
        b.box(0, 0, 1, 0, 0, 1, 1);
        b.box(0, 0, 1, 0, 0, 1, 1);
        b.box(0, 0, 1, 0, 0, 1, 1);
        Due.is("none", b.of(2, 2), NONE);
        b.tie(0, 2, 1, 0);
        Due.is("its leader", b.of(2, 2), 1);
        b.tie(0, 2, 0, 0);
        Due.is("another one, with the number 0", b.of(2, 2), 0);
        Due.is("the leader has none", b.of(0, 2), NONE);
        b.erase(0, 0);
        Due.is("none any more", b.of(2, 2), NONE);
    }

    private static void tellsKinds() {
        Layerboard b = new Layerboard();
        b.box(0, 0, 1, 0, 0, 1, 1);
        b.box(0, 0, 1, 0, 0, 1, 1);
        Due.is("none", b.of(1, 3), NONE);
        for (int kind = 0; kind < 3; kind++) {
            b.tie(0, 1, 0, kind);
            Due.is("kind", b.of(1, 3), kind);
        }
        Due.is("the leader has none", b.of(0, 3), NONE);
        b.untie(0, 1);
        Due.is("none any more", b.of(1, 3), NONE);
    }

    private static void tellsGroups() {
        Layerboard b = new Layerboard();
        for (int i = 0; i < 4; i++) {
            b.box(0, 0, 1, 0, 0, 1, 1);
        }
        Due.is("none", b.of(0, 4), NONE);
        b.gather(0, 0b0011);
        b.gather(0, 0b0101);
        b.gather(0, 0b1010);
        for (int i = 0; i < 4; i++) {
            Due.is("the outermost of three", b.of(i, 4), 6);
        }
        b.scatter(0, 0);
        Due.is("the next one", b.of(1, 4), 5);
        Due.is("none", b.of(3, 4), NONE);
    }

    private static void tellsPolygons() {
        Layerboard b = new Layerboard();
        b.box(0, 0, 1, 0, 0, 4, 4);
        Due.is("one", b.of(0, 5), 1);
        Due.is("its table", b.of(0, 6), 0b10);
        b.join(0, 1, 0, 0);
        b.join(0, 0, 1, 1);
        Due.is("two", b.of(1, 5), 2);
        Due.is("both", b.of(1, 6), 0b1000);
        Due.is("four", b.of(2, 5), 4);
        // with the first two, or with the other two: the sets that have 3, and those that have 12
        Due.is("both or both", b.of(2, 6), 0b1111_1000_1000_1000);
    }

    private static void tellsKeys() {
        Layerboard b = new Layerboard();
        for (int i = 0; i < 4; i++) {
            b.box(0, 2, 1, 0, 0, 1, 1);
            Due.is("numerator", b.of(i, 7), i + 1);
            Due.is("denominator", b.of(i, 8), 1);
        }
        b.raise(0, 1, 3);
        Due.is("1 / 2, numerator", b.of(1, 7), 1);
        Due.is("1 / 2, denominator", b.of(1, 8), 2);
        b.raise(0, 1, 0);
        Due.is("between 1 and 3, numerator", b.of(1, 7), 2);
        Due.is("between 1 and 3, denominator", b.of(1, 8), 1);
    }

    private static void tellsFrames() {
        Layerboard b = new Layerboard();
        Due.draws(b, 30, 5, 40, 15, 30, 25, 20, 15);
        int[] due = {20, 5, 40, 25};
        for (int i = 0; i < 4; i++) {
            Due.is("side " + i, b.of(0, 10 + i), due[i]);
        }
        b.box(0, 0, 1, 0, 0, 60, 60);
        b.join(0, 1, 0, 1);
        int[] all = {0, 0, 60, 60};
        for (int i = 0; i < 4; i++) {
            Due.is("of all its polygons, side " + i, b.of(2, 10 + i), all[i]);
        }
    }

    private static void countsCorners() {
        Layerboard b = new Layerboard();
        int[][] rows = {{0, 0, 4, 0, 4, 4}, {0, 0, 4, 0, 4, 4, 0, 4}, {0, 0, 4, 0, 6, 2, 6, 4, 4, 4, 2, 4, 0, 2},
            {10, 10, 12, 10, 14, 12, 14, 14, 12, 16, 10, 16, 8, 14, 8, 12}};
        for (int i = 0; i < 4; i++) {
            Due.draws(b, rows[i]);
            Due.is("how many", b.corners(i, 0), rows[i].length / 2);
        }
        b.join(0, 0, 0, 3);
        b.join(0, 0, 4, 2);
        Due.is("of polygon 0", b.corners(5, 0), 3);
        Due.is("of polygon 1", b.corners(5, 1), 8);
        Due.is("of polygon 2", b.corners(5, 2), 7);
        Due.fails("polygon 3", Due.INDEX, () -> b.corners(5, 3));
        Due.fails("polygon -1", Due.INDEX, () -> b.corners(5, -1));
        Due.fails("of one, polygon 1", Due.INDEX, () -> b.corners(0, 1));
    }

    private static void tellsCorners() {
        Layerboard b = new Layerboard();
        int[] row = {10, 10, 12, 10, 14, 12, 14, 14, 12, 16, 10, 16, 8, 14, 8, 12};
        Due.draws(b, 0, 60, 60, 60, 60, 0);
        Due.draws(b, row);
        b.join(0, 0, 0, 1);
        for (int i = 0; i < 8; i++) {
            Due.is("x", b.corner(2, 1, i, false), row[2 * i]);
            Due.is("y", b.corner(2, 1, i, true), row[2 * i + 1]);
        }
        Due.is("of the first polygon", b.corner(2, 0, 2, true), 0);
        Due.fails("corner 8", Due.INDEX, () -> b.corner(2, 1, 8, true));
        Due.fails("corner 3 of three", Due.INDEX, () -> b.corner(2, 0, 3, false));
        Due.fails("corner -1", Due.INDEX, () -> b.corner(2, 0, -1, false));
    }

    // ---- points, areas, meetings

    private static void holdsHalves() {
        Layerboard b = new Layerboard();
        b.box(0, 0, 1, 59, 58, 1, 2);
        b.box(0, 0, 1, 0, 0, 1, 1);
        for (int x = 0; x <= 120; x++) {
            Due.is("across " + x, b.holds(0, x, 117), x == 118 || x == 119);
            Due.is("up " + x, b.holds(0, 119, x), x >= 116 && x < 120);
            Due.is("near 0, " + x, b.holds(1, x, x), x < 2);
        }
        b.show(0, 0, false);
        Due.is("also when it is not visible", b.holds(0, 118, 116), true);
        Due.is("120 is no wrong point", b.holds(0, 120, 120), false);
        Due.fails("121", Due.ARGUMENT, () -> b.holds(0, 121, 0));
        Due.fails("-1", Due.ARGUMENT, () -> b.holds(0, 0, -1));
    }

    private static void hitsTheUppermost() {
        Layerboard b = new Layerboard();
        b.box(0, 1, 1, 0, 0, 10, 10);
        b.box(0, 1, 1, 5, 5, 10, 10);
        b.box(0, 0, 1, 0, 0, 60, 60);
        Due.is("of one layer", b.hit(10, 10), 1);
        Due.is("half below", b.hit(9, 9), 0);
        Due.is("the lower layer", b.hit(30, 30), 2);
        Due.is("half below that", b.hit(29, 29), 1);
        Due.is("the last point that is held", b.hit(119, 119), 2);
        b.raise(0, 0, 2);
        Due.is("another order", b.hit(10, 10), 0);
        b.show(0, 1, false);
        Due.is("visible ones", b.hit(10, 10), 2);
    }

    private static void hitsNone() {
        Layerboard b = new Layerboard();
        Due.is("no shape", b.hit(0, 0), NONE);
        b.box(0, 0, 1, 0, 0, 60, 60);
        Due.is("no shape holds the right edge of the board", b.hit(120, 60), NONE);
        Due.is("nor its upper edge", b.hit(60, 120), NONE);
        Due.is("the shape 0 is not none", b.hit(119, 0), 0);
        b.show(0, 0, false);
        Due.is("none that is visible", b.hit(10, 10), NONE);
        b.show(0, 0, true);
        b.erase(0, 0);
        Due.is("none that is there", b.hit(10, 10), NONE);
    }

    private static void caughtWholly() {
        Layerboard b = new Layerboard();
        b.diamond(0, 0, 1, 20, 20, 5);
        Due.is("its frame just fits", b.caught(15, 15, 10, 10, true), 1);
        Due.is("left", b.caught(16, 15, 10, 10, true), 0);
        Due.is("lower", b.caught(15, 16, 10, 10, true), 0);
        Due.is("right", b.caught(15, 15, 9, 10, true), 0);
        Due.is("upper", b.caught(15, 15, 10, 9, true), 0);
        Due.is("with room", b.caught(14, 13, 20, 30, true), 1);
        Due.draws(b, 15, 20, 25, 20, 20, 20);
        Due.is("a flat one in it", b.caught(15, 15, 10, 10, true), 3);
        Due.is("a flat one on the edge", b.caught(15, 20, 10, 5, true), 2);
        b.join(0, 1, 0, 1);
        Due.is("one that holds nothing", b.caught(15, 15, 10, 10, true), 11 - 4);
        b.box(0, 3, 1, 0, 0, 60, 60);
        Due.is("the whole board", b.caught(0, 0, 60, 60, true), 15);
    }

    private static void caughtByArea() {
        Layerboard b = new Layerboard();
        b.diamond(0, 0, 1, 20, 20, 5);
        Due.is("a point of its edge has no area", b.caught(25, 19, 2, 2, false), 0);
        Due.is("a corner of its frame", b.caught(15, 15, 2, 3, false), 0);
        Due.is("a part of it", b.caught(15, 15, 3, 3, false), 1);
        Due.is("within it", b.caught(19, 19, 2, 2, false), 1);
        Due.is("around it", b.caught(10, 10, 20, 20, false), 1);
        b.box(0, 0, 1, 30, 30, 5, 5);
        Due.is("edge on edge", b.caught(35, 30, 5, 5, false), 0);
        Due.is("corner on corner", b.caught(25, 25, 5, 5, false), 0);
        Due.is("one cell of it", b.caught(34, 34, 20, 20, false), 2);
        Due.draws(b, 40, 20, 50, 20, 45, 20);
        Due.is("a flat one holds none", b.caught(40, 15, 10, 10, false), 0);
        b.join(0, 2, 1, 0);
        b.box(0, 0, 1, 32, 32, 1, 1);
        b.join(0, 2, 1, 4);
        Due.is("a hole is not held", b.caught(32, 32, 1, 1, false), 0b11010);
        Due.is("beside it", b.caught(31, 32, 1, 1, false), 0b101010);
    }

    private static void caughtIfVisible() {
        Layerboard b = new Layerboard();
        b.box(0, 0, 1, 10, 10, 5, 5);
        b.box(0, 3, 1, 10, 10, 5, 5);
        for (boolean wholly : new boolean[] {false, true}) {
            Due.is("both", b.caught(10, 10, 5, 5, wholly), 3);
            b.show(0, 0, false);
            Due.is("the other one", b.caught(10, 10, 5, 5, wholly), 2);
            b.show(0, 0, true);
            b.show(0, 3, false);
            Due.is("the one", b.caught(10, 10, 5, 5, wholly), 1);
            b.show(0, 3, true);
        }
    }

    private static void framesThatMayBe() {
        Layerboard b = new Layerboard();
        int[][] good = {{0, 0, 60, 60}, {59, 59, 1, 1}, {0, 59, 60, 1}, {59, 0, 1, 60}};
        for (int[] f : good) {
            Due.answers("a frame", () -> b.caught(f[0], f[1], f[2], f[3], true));
        }
        int[][] bad = {{0, 0, 61, 60}, {0, 0, 60, 61}, {0, 0, 0, 1}, {0, 0, 1, 0}, {60, 0, 1, 1}, {0, 60, 1, 1}, {1, 0, 60, 1},
            {0, 1, 1, 60}, {-1, 0, 2, 2}, {0, -1, 2, 2}, {61, 0, 1, 1}, {5, 5, -1, 1}, {5, 5, 1, -1}, {60, 60, 0, 0},
            {1, 1, Integer.MAX_VALUE, 1}, {Integer.MAX_VALUE, 1, 60, 1}, {1, Integer.MIN_VALUE, 1, 60}};
        for (int[] f : bad) {
            Due.fails("no frame", Due.ARGUMENT, () -> b.caught(f[0], f[1], f[2], f[3], true));
            Due.fails("no frame", Due.ARGUMENT, () -> b.caught(f[0], f[1], f[2], f[3], false));
        }
    }

    private static void areas() {
        Layerboard b = new Layerboard();
        Due.draws(b, 0, 0, 1, 0, 1, 1);
        Due.is("the least, numerator", b.area(0, false), 1);
        b.box(0, 0, 1, 0, 0, 60, 60);
        Due.is("the most, numerator", b.area(1, false), 3600);
        b.show(0, 0, false);
        Due.is("also when it is not visible", b.area(1, false), 3600);
        b.join(0, 2, 1, 0);
        Due.is("of a joined one", b.area(3, false), 7199);
    }

    private static void topsAndBottoms() {
        Layerboard b = new Layerboard();
        Due.draws(b, 0, 0, 1, 0, 1, 1);
        Due.is("a half, numerator", b.area(0, false), 1);
        Due.is("a half, denominator", b.area(0, true), 2);
        Due.draws(b, 0, 0, 1, 0, 0, 0, 1, 0);
        Due.is("nothing, numerator", b.area(1, false), 0);
        Due.is("nothing, denominator", b.area(1, true), 1);
        b.box(0, 0, 1, 0, 0, 60, 60);
        Due.is("whole, denominator", b.area(2, true), 1);
        Due.draws(b, 0, 0, 1, 2, 2, 2, 0, 1);
        Due.is("thirds, numerator", b.area(3, false), 2);
        Due.is("thirds, denominator", b.area(3, true), 3);
    }

    private static void topsAndBottomsOfTwo() {
        Layerboard b = new Layerboard();
        b.box(0, 0, 1, 0, 0, 10, 10);
        b.diamond(0, 0, 1, 10, 10, 5);
        b.box(0, 0, 1, 40, 40, 1, 1);
        Due.is("halves, numerator", b.areaOf(2, 1, 0, false), 75);
        Due.is("halves, denominator", b.areaOf(2, 1, 0, true), 2);
        Due.is("whole, numerator", b.areaOf(3, 0, 1, false), 125);
        Due.is("whole, denominator", b.areaOf(3, 0, 1, true), 1);
        for (int how = 1; how < 4; how++) {
            int other = how == 1 ? 2 : 0;
            Due.is("nothing, numerator", b.areaOf(how, 0, other, false), 0);
            Due.is("nothing, denominator", b.areaOf(how, 0, other, true), 1);
        }
    }

    private static void areasOfTwo() {
        Layerboard b = new Layerboard();
        b.box(0, 0, 1, 0, 0, 10, 10);
        b.diamond(0, 0, 1, 10, 10, 5);
        int[] tops = {275, 25, 175, 125};
        int[] bottoms = {2, 2, 2, 1};
        for (int how = 0; how < 4; how++) {
            Due.is("numerator by " + how, b.areaOf(how, 0, 1, false), tops[how]);
            Due.is("denominator by " + how, b.areaOf(how, 0, 1, true), bottoms[how]);
        }
        Due.is("the second one less the first one, numerator", b.areaOf(2, 1, 0, false), 75);
        Due.is("the second one less the first one, denominator", b.areaOf(2, 1, 0, true), 2);
        Due.is("nothing, numerator", b.areaOf(2, 0, 0, false), 0);
        Due.is("nothing, denominator", b.areaOf(2, 0, 0, true), 1);
        b.join(0, 0, 0, 1);
        b.join(0, 0, 2, 2);
        b.join(0, 3, 2, 2);
        Due.is("four polygons and four", b.areaOf(2, 3, 4, false), 275);
        Due.is("four polygons and themselves", b.areaOf(1, 3, 3, false), 275);
        Due.is("one and four", b.areaOf(0, 1, 3, false), 275);
        Due.is("no shape is made", b.changes(), 5);
    }

    private static void countsMeetings() {
        Layerboard b = new Layerboard();
        b.box(0, 0, 1, 10, 10, 10, 10);
        b.box(0, 0, 1, 15, 15, 10, 10);
        b.box(0, 0, 1, 30, 30, 5, 5);
        b.box(0, 0, 1, 12, 5, 4, 30);
        Due.is("two", b.meetings(0, 1), 2);
        Due.is("none", b.meetings(0, 2), 0);
        Due.is("four", b.meetings(0, 3), 4);
        Due.is("the other way", b.meetings(3, 0), 4);
        Due.is("one and itself", b.meetings(0, 0), 4);
        b.show(0, 0, false);
        Due.is("also when they are not visible", b.meetings(0, 1), 2);
    }

    private static void tellsMeetings() {
        Layerboard b = new Layerboard();
        // y = 2x - 7 to (12, 17), y = 10 - x / 2: at (34 / 5, 33 / 5)
        Due.draws(b, 0, 0, 20, 0, 0, 10);
        Due.draws(b, 4, 1, 12, 17, 12, 1);
        int[][] due = {{34, 5, 33, 5}, {12, 1, 4, 1}};
        Due.is("two", b.meetings(0, 1), 2);
        for (int place = 0; place < 2; place++) {
            for (int what = 0; what < 4; what++) {
                Due.is("place " + place + ", " + what, b.meeting(0, 1, place, what), due[place][what]);
            }
        }
        Due.draws(b, 0, 0, 10, 0, 0, 10);
        Due.is("a corner at 0, numerator of x", b.meeting(2, 2, 0, 0), 0);
        Due.is("a corner at 0, denominator of x", b.meeting(2, 2, 0, 1), 1);
        Due.is("a corner at 0, numerator of y", b.meeting(2, 2, 0, 2), 0);
        Due.is("a corner at 0, denominator of y", b.meeting(2, 2, 0, 3), 1);
        b.box(0, 0, 1, 59, 59, 1, 1);
        Due.is("a corner at 60, x", b.meeting(3, 3, 3, 0), 60);
        Due.is("a corner at 60, y", b.meeting(3, 3, 3, 2), 60);
    }

    private static void placesOfMeetings() {
        Layerboard b = new Layerboard();
        b.box(0, 0, 1, 10, 10, 10, 10);
        b.box(0, 0, 1, 30, 30, 5, 5);
        Due.fails("none", Due.INDEX, () -> b.meeting(0, 1, 0, 0));
        Due.fails("none, and no such what", Due.INDEX, () -> b.meeting(0, 1, 0, 4));
        Due.answers("the last one", () -> b.meeting(0, 0, 3, 3));
        Due.fails("place 4", Due.INDEX, () -> b.meeting(0, 0, 4, 0));
        Due.fails("place -1", Due.INDEX, () -> b.meeting(0, 0, -1, 0));
        Due.fails("what 4", Due.ARGUMENT, () -> b.meeting(0, 0, 3, 4));
        Due.fails("what -1", Due.ARGUMENT, () -> b.meeting(0, 0, 0, -1));
    }

    // ---- the picture, changes

    private static void ways() {
        Layerboard b = new Layerboard();
        b.box(0, 0, 1, 3, 4, 5, 5);
        b.box(0, 0, 1, 23, 34, 5, 5);
        Due.is("bends", b.way(0, 1, false), 1);
        Due.is("steps", b.way(0, 1, true), 50);
        Due.is("bends of none", b.way(0, 0, false), 0);
        Due.is("steps of none", b.way(0, 0, true), 0);
        b.box(0, 1, 1, 23, 0, 5, 10);
        b.box(0, 1, 1, 0, 34, 10, 10);
        Due.is("bends round them", b.way(0, 1, false), 2);
        Due.is("steps round them", b.way(0, 1, true), 50);
        Due.is("no change", b.changes(), 4);
    }

    /** The bends times 10000, and the steps, of the best way, looked for step by step; NONE without one. */
    private static int wayOf(Layerboard b, int one, int other) {
        int[] best = new int[61 * 61 * 4];
        Arrays.fill(best, Integer.MAX_VALUE);
        ArrayDeque<Integer> open = new ArrayDeque<>();
        int from = 61 * b.of(one, 11) + b.of(one, 10);
        int to = 61 * b.of(other, 11) + b.of(other, 10);
        if (!isFree(b, from % 61, from / 61, one, other) || !isFree(b, to % 61, to / 61, one, other)) {
            return NONE;
        }
        for (int d = 0; d < 4; d++) {
            best[4 * from + d] = 0;
            open.add(4 * from + d);
        }
        while (!open.isEmpty()) {
            int at = open.remove();
            for (int d = 0; d < 4; d++) {
                int x = at / 4 % 61 + new int[] {1, -1, 0, 0}[d];
                int y = at / 4 / 61 + new int[] {0, 0, 1, -1}[d];
                int cost = best[at] + (d == at % 4 ? 1 : 10001);
                if (x >= 0 && x <= 60 && y >= 0 && y <= 60 && cost < best[4 * (61 * y + x) + d]
                        && isFree(b, x, y, one, other)) {
                    best[4 * (61 * y + x) + d] = cost;
                    open.add(4 * (61 * y + x) + d);
                }
            }
        }
        int least = Arrays.stream(best, 4 * to, 4 * to + 4).min().getAsInt();
        return least == Integer.MAX_VALUE ? NONE : least;
    }

    private static boolean isFree(Layerboard b, int x, int y, int one, int other) {
        long seen = b.caught(0, 0, 60, 60, true);
        for (int i = 0; i < b.changes(); i++) {
            if (i != one && i != other && (seen >> i & 1) == 1 && b.holds(i, 2 * x, 2 * y)) {
                return false;
            }
        }
        return true;
    }

    /** Walls at random, and leaning ones; of ways that begin across, and up, the shorter ones count. */
    private static void waysRoundWalls() {
        for (int seed = 0; seed < 24; seed++) {
            Random random = new Random(seed);
            Layerboard b = seed % 4 == 0 ? leaningEdges(seed) : new Layerboard();
            int many = 8 + random.nextInt(20);
            for (int i = 0; i < many; i++) {
                int length = 5 + random.nextInt(30);
                int across = random.nextInt(60);
                int along = random.nextInt(60 - length);
                if (i % 2 == 0) {
                    b.box(0, 0, 1, across, along, 1, length);
                } else {
                    b.box(0, 0, 1, along, across, length, 1);
                }
            }
            for (int i = 0; i < 6; i++) {
                int one = b.shapeAt(random.nextInt(many));
                int other = b.shapeAt(random.nextInt(many));
                int want = wayOf(b, one, other);
                Due.is("bends", b.way(one, other, false), want == NONE ? NONE : want / 10000);
                Due.is("steps", b.way(one, other, true), want == NONE ? NONE : want % 10000);
            }
        }
    }

    private static void withoutAWay() {
        Layerboard b = new Layerboard();
        b.box(0, 0, 1, 10, 10, 1, 1);
        b.box(0, 0, 1, 40, 10, 1, 1);
        b.box(0, 0, 1, 5, 5, 10, 1);
        b.box(0, 0, 1, 5, 15, 10, 1);
        b.box(0, 0, 1, 5, 6, 1, 9);
        b.box(0, 0, 1, 14, 6, 1, 9);
        for (boolean steps : new boolean[] {false, true}) {
            Due.is("shut in", b.way(0, 1, steps), NONE);
            Due.is("shut out", b.way(1, 0, steps), NONE);
            Due.is("from a part of the wall", b.way(5, 1, steps), steps ? 30 : 1);
            Due.is("to a part of the wall", b.way(0, 5, steps), steps ? 8 : 1);
        }
        b.show(0, 0, false);
        Due.is("no wall is visible", b.way(0, 1, true), 30);
        b.show(0, 0, true);
        b.erase(0, 3);
        Due.is("by the side that is left", b.way(0, 1, true), 40);
    }

    private static void cells() {
        Layerboard b = new Layerboard();
        b.box(0, 0, 9, 0, 0, 60, 60);
        b.box(0, 1, 4, 20, 30, 1, 1);
        Due.is("the lower one", b.cell(19, 30), 9);
        Due.is("the upper one", b.cell(20, 30), 4);
        Due.is("not above it", b.cell(20, 31), 9);
        Due.is("x is not y", b.cell(30, 20), 9);
        b.show(0, 1, false);
        Due.is("visible ones", b.cell(20, 30), 9);
        b.show(0, 0, false);
        Due.is("none", b.cell(20, 30), 0);
    }

    private static void rows() {
        Layerboard b = new Layerboard();
        b.box(0, 0, 2, 0, 7, 3, 2);
        b.box(0, 1, 9, 59, 8, 1, 1);
        Due.is("below", b.row(6), 0);
        Due.is("2 times 1, 2 and 3", b.row(7), 12);
        Due.is("and 9 times 60", b.row(8), 552);
        Due.is("above", b.row(9), 0);
        b.box(0, 2, 5, 2, 0, 1, 60);
        Due.is("5 times 3", b.row(0), 15);
        Due.is("the upper one's", b.row(7), 6 + 15);
        Due.is("the last row", b.row(59), 15);
        b.show(0, 2, false);
        Due.is("visible ones", b.row(7), 12);
    }

    private static void fields() {
        Layerboard b = new Layerboard();
        Due.is("all", b.field(0, 0), 3600);
        b.box(0, 0, 2, 10, 0, 5, 60);
        Due.is("left", b.field(9, 59), 600);
        Due.is("between", b.field(10, 0), 300);
        Due.is("right", b.field(15, 30), 2700);
        b.box(0, 0, 2, 15, 20, 5, 5);
        Due.is("the same colour beside it", b.field(10, 0), 325);
        b.box(0, 1, 3, 0, 30, 60, 1);
        Due.is("cut by another one", b.field(10, 0), 5 * 30 + 25);
        Due.is("above it", b.field(10, 59), 5 * 29);
    }

    /** Leaning edges in all directions, so that the middles of cells lie on them, and beside them. */
    private static Layerboard leaningEdges(int seed) {
        Layerboard b = new Layerboard();
        b.diamond(0, 0, 1, 12, 12, 12);
        Due.draws(b, 20, 20, 40, 30, 30, 50, 10, 40);
        b.paint(0, 1, 2);
        b.toLayer(0, 1, 1);
        Due.draws(b, 60, 60, 20, 40, 40, 0, 60, 40);
        b.paint(0, 4, 3);
        Due.draws(b, 30, 60, 50, 40, 59, 49, 49, 59, 48, 60);
        b.join(0, 3, 1, 4);
        b.sample(1, seed, 6);
        return b;
    }

    private static void rowsOfCells() {
        for (int seed = 0; seed < 8; seed++) {
            Layerboard b = leaningEdges(seed);
            for (int y = 0; y < 60; y++) {
                int sum = 0;
                for (int x = 0; x < 60; x++) {
                    int shape = b.hit(2 * x + 1, 2 * y + 1);
                    int colour = shape == NONE ? 0 : b.of(shape, 1);
                    Due.is("a cell", b.cell(x, y), colour);
                    sum += colour * (x + 1);
                }
                Due.is("row " + y, b.row(y), sum);
            }
        }
    }

    private static int fieldOf(Layerboard b, int x, int y) {
        boolean[] isTaken = new boolean[3600];
        int[] cells = new int[3600];
        cells[0] = 60 * y + x;
        isTaken[cells[0]] = true;
        int many = 1;
        for (int i = 0; i < many; i++) {
            for (int step = 0; step < 4; step++) {
                int nextX = cells[i] % 60 + new int[] {1, -1, 0, 0}[step];
                int nextY = cells[i] / 60 + new int[] {0, 0, 1, -1}[step];
                if (nextX >= 0 && nextX < 60 && nextY >= 0 && nextY < 60 && !isTaken[60 * nextY + nextX]
                        && b.cell(nextX, nextY) == b.cell(x, y)) {
                    isTaken[60 * nextY + nextX] = true;
                    cells[many] = 60 * nextY + nextX;
                    many++;
                }
            }
        }
        return many;
    }

    private static void fieldsOfCells() {
        for (int seed = 0; seed < 3; seed++) {
            Layerboard b = leaningEdges(seed);
            for (int at = 0; at < 60; at += 4) {
                Due.is("a field", b.field(at, at), fieldOf(b, at, at));
                Due.is("a field", b.field(59 - at, at), fieldOf(b, 59 - at, at));
            }
        }
    }

    private static void countsChanges() {
        Layerboard b = new Layerboard();
        Due.is("none", b.changes(), 0);
        b.sample(0, 1, 3);
        Due.is("three", b.changes(), 3);
        b.undo(0);
        b.undo(0);
        Due.is("those that were taken back as well", b.changes(), 3);
        Due.fails("a throw", Due.STATE, () -> b.untie(0, 0));
        Due.is("no more by that", b.changes(), 3);
        Due.is("60 at most", Due.fillTo(b, 60).changes(), 60);
        Due.fails("no more", Due.STATE, () -> b.show(0, 0, true));
        Due.is("60 at most", b.changes(), 60);
    }

    private static void tellsWhatStands() {
        Layerboard b = new Layerboard();
        Due.fails("none", Due.INDEX, () -> b.stands(0));
        b.box(0, 0, 1, 0, 0, 1, 1);
        b.paint(1, 0, 2);
        b.paint(2, 0, 3);
        b.undo(0);
        Due.is("taken back", b.stands(0), false);
        Due.is("without its shape it stands", b.stands(1), true);
        b.undo(1);
        Due.is("taken back", b.stands(1), false);
        Due.is("stands", b.stands(2), true);
        Due.fails("not made", Due.INDEX, () -> b.stands(3));
        Due.fails("-1", Due.INDEX, () -> b.stands(-1));
        Due.fillTo(b, 60);
        Due.is("the last one", b.stands(59), true);
        Due.fails("60", Due.INDEX, () -> b.stands(60));
    }

    // ---- texts

    private static void types() {
        Layerboard b = new Layerboard();
        String text = "(10,2)(20,2)(15,7)";
        for (int i = 0; i < text.length(); i++) {
            Due.is("how many", b.type(text.charAt(i)), i + 1);
        }
        b.trace(0, 0, 1);
        Due.paperIs("each behind those ahead of it", b, 0, text);
        Due.is("behind them", b.type(' '), 19);
        Due.is("the fault is there", b.fault(), 18);
        Due.is("no change", b.changes(), 1);
    }

    private static void wipes() {
        Layerboard b = new Layerboard();
        Due.is("none", b.wipe(), 0);
        Due.types(b, "(1,1)(2,2)");
        Due.is("how many", b.wipe(), 10);
        Due.is("none then", b.wipe(), 0);
        Due.is("the first one", b.type('x'), 1);
        Due.is("no change", b.changes(), 0);
    }

    private static void faults() {
        Layerboard b = new Layerboard();
        String text = "(1,60)(59,0)(7,10)";
        Due.is("empty", b.fault(), 0);
        for (int i = 0; i < 17; i++) {
            b.type(text.charAt(i));
            Due.is("its length", b.fault(), i + 1);
        }
        b.type(';');
        Due.is("the sign that is wrong", b.fault(), 17);
        b.type('(');
        Due.is("the first one that is wrong", b.fault(), 17);
    }

    private static void noFault() {
        Layerboard b = new Layerboard();
        for (int many = 1; many <= 9; many++) {
            for (char sign : "(1,60)".toCharArray()) {
                b.type(sign);
            }
            Due.is("of " + many, b.fault() == NONE, many >= 3 && many <= 8);
            Due.is("told again", b.fault() == NONE, many >= 3 && many <= 8);
        }
    }

    private static void papers() {
        Layerboard b = new Layerboard();
        b.box(0, 0, 1, 8, 9, 1, 1);
        Due.is("how many signs", b.paper(0), 22);
        Due.paperIs("corners", b, 0, "(8,9)(9,9)(9,10)(8,10)");
        b.turn(0, 0, 1);
        Due.paperIs("as they are now", b, 0, "(9,9)(9,10)(8,10)(8,9)");
        Due.is("no change", b.changes(), 2);
        int[] row = {10, 10, 12, 10, 14, 12, 14, 14, 12, 16, 10, 16, 20, 26, 20, 20};
        Due.draws(b, row);
        b.join(0, 0, 2, 2);
        b.join(0, 0, 3, 3);
        Due.is("the longest", b.paper(4), 4 * 56 + 3);
        Due.is("its end", b.out(226), ')');
        Due.fails("behind it", Due.INDEX, () -> b.out(227));
    }

    private static void outs() {
        Layerboard b = new Layerboard();
        Due.fails("none yet", Due.INDEX, () -> b.out(0));
        b.box(0, 0, 1, 8, 9, 1, 1);
        b.paper(0);
        String text = "(8,9)(9,9)(9,10)(8,10)";
        for (int i = 0; i < text.length(); i++) {
            Due.is("sign " + i, b.out(i), text.charAt(i));
        }
        Due.fails("behind the last one", Due.INDEX, () -> b.out(22));
        Due.fails("ahead of the first one", Due.INDEX, () -> b.out(-1));
    }

    private static void sound() {
        Layerboard b = new Layerboard();
        Due.is("empty", b.isSound(), true);
        Due.draws(b, 0, 0, 10, 10, 10, 0, 0, 10);
        Due.draws(b, 5, 5, 9, 5, 7, 5);
        Due.is("crossing edges, and a flat one", b.isSound(), true);
        for (int i = 0; i < 12; i++) {
            b.join(0, i % 4, i < 2 ? 0 : 2, i < 2 ? 0 : 3);
            Due.is("joined", b.isSound(), true);
        }
        while (b.changes() < 60) {
            b.raise(0, b.changes() % 2, 3);
            Due.is("raised", b.isSound(), true);
        }
        for (int i = 0; i < 60; i++) {
            b.undo(0);
            Due.is("taken back", b.isSound(), true);
        }
    }

    private QuestionSentences() {
    }
}
