import java.util.Arrays;

/**
 * A drawing board of shapes with straight edges. Several hands change it, each change is kept in a
 * journal, and the board is made anew from the changes that stand when one of them is taken back.
 */
public final class Layerboard {
    public static final int NONE = -1;

    private static final int HANDS = 3;
    private static final int LAYERS = 4;
    private static final int COLOURS = 9;
    private static final int SIDE = 60;
    private static final int MOST_CHANGES = 60;
    private static final int MOST_CORNERS = 8;
    private static final int MOST_POLYGONS = 4;
    private static final int LAWS = 4;
    /** Answers of changes are never below 0, so this one is free to say that a change would throw. */
    private static final int REFUSED = -1;

    private final Board board;
    private final Change[] journal;
    private int made;
    private final Polygon penPoints;
    private final Polygon tapePoints;
    private final Text tape;
    private final Text sheet;
    private final Sweep sweep;
    private final Crossings crossings;
    private final Picture picture;
    private final Shape catcher;
    /** A shape without polygons: what is measured with it is measured alone. */
    private final Shape nothing;
    private final Lots lots;

    public Layerboard() {
        board = new Board();
        journal = new Change[MOST_CHANGES];
        for (int i = 0; i < MOST_CHANGES; i++) {
            journal[i] = new Change();
        }
        made = 0;
        penPoints = new Polygon();
        tapePoints = new Polygon();
        tape = new Text(Text.TAPE);
        sheet = new Text(Text.SHEET);
        sweep = new Sweep();
        crossings = new Crossings();
        picture = new Picture();
        catcher = new Shape();
        nothing = new Shape();
        lots = new Lots();
    }

    // ---- drawing

    public int pen(int x, int y) throws IllegalArgumentException, IllegalStateException {
        if (!isOnBoard(x) || !isOnBoard(y)) {
            throw new IllegalArgumentException("x and y are 0 to 60");
        }
        if (penPoints.count >= MOST_CORNERS) {
            throw new IllegalStateException("the pen has 8 points");
        }
        penPoints.add(x, y);
        return penPoints.count;
    }

    public int lift() {
        int had = penPoints.count;
        penPoints.clear();
        return had;
    }

    public int draw(int hand, int layer, int colour)
            throws IndexOutOfBoundsException, IllegalArgumentException, IllegalStateException {
        needHand(hand);
        needLayer(layer);
        needColour(colour);
        int number = make(nextPolygon(hand, layer, colour, penPoints));
        penPoints.clear();
        return number;
    }

    public int trace(int hand, int layer, int colour)
            throws IndexOutOfBoundsException, IllegalArgumentException, IllegalStateException {
        needHand(hand);
        needLayer(layer);
        needColour(colour);
        if (tape.readCorners(tapePoints) != NONE) {
            throw new IllegalStateException("the tape has a fault");
        }
        return make(nextPolygon(hand, layer, colour, tapePoints));
    }

    public int box(int hand, int layer, int colour, int x, int y, int wide, int high)
            throws IndexOutOfBoundsException, IllegalArgumentException, IllegalStateException {
        needHand(hand);
        needLayer(layer);
        needColour(colour);
        needRectangle(x, y, wide, high);
        Change change = nextDrawing(hand, layer, colour);
        change.outline.takeRectangle(x, y, wide, high);
        return make(change);
    }

    public int diamond(int hand, int layer, int colour, int x, int y, int reach)
            throws IndexOutOfBoundsException, IllegalArgumentException, IllegalStateException {
        needHand(hand);
        needLayer(layer);
        needColour(colour);
        if (reach < 1 || reach > SIDE / 2 || !isOnBoard(x) || !isOnBoard(y)
                || !isOnBoard(x - reach) || !isOnBoard(x + reach)
                || !isOnBoard(y - reach) || !isOnBoard(y + reach)) {
            throw new IllegalArgumentException("no diamond on the board");
        }
        Change change = nextDrawing(hand, layer, colour);
        change.outline.takeDiamond(x, y, reach);
        return make(change);
    }

    public int sample(int hand, int seed, int many)
            throws IndexOutOfBoundsException, IllegalArgumentException, IllegalStateException {
        needHand(hand);
        if (seed < 0 || seed > Lots.GREATEST_SEED || many < 1 || many > 6) {
            throw new IllegalArgumentException("seed or many is out of range");
        }
        if (made + many > MOST_CHANGES) {
            throw new IllegalStateException("not so many changes can be made any more");
        }
        lots.seed = seed;
        int last = NONE;
        for (int i = 0; i < many; i++) {
            last = make(nextByLots(hand));
        }
        return last;
    }

    public int erase(int hand, int shape) throws IndexOutOfBoundsException, IllegalStateException {
        needHand(hand);
        needShape(shape);
        return make(nextChange(Change.ERASE, hand, shape));
    }

    // ---- moving and changing

    public int move(int hand, int shape, int dx, int dy, boolean alone)
            throws IndexOutOfBoundsException, IllegalArgumentException, IllegalStateException {
        needHand(hand);
        needShape(shape);
        if (dx < -SIDE || dx > SIDE || dy < -SIDE || dy > SIDE) {
            throw new IllegalArgumentException("dx and dy are -60 to 60");
        }
        Change change = nextChange(Change.MOVE, hand, shape);
        change.across = dx;
        change.up = dy;
        change.flag = alone;
        return make(change);
    }

    public int turn(int hand, int shape, int quarters)
            throws IndexOutOfBoundsException, IllegalArgumentException, IllegalStateException {
        needHand(hand);
        needShape(shape);
        needAmount(quarters, 1, 3);
        Change change = nextChange(Change.TURN, hand, shape);
        change.amount = quarters;
        return make(change);
    }

    public int mirror(int hand, int shape, boolean upright)
            throws IndexOutOfBoundsException, IllegalStateException {
        needHand(hand);
        needShape(shape);
        Change change = nextChange(Change.MIRROR, hand, shape);
        change.flag = upright;
        return make(change);
    }

    public int grow(int hand, int shape, int times)
            throws IndexOutOfBoundsException, IllegalArgumentException, IllegalStateException {
        needHand(hand);
        needShape(shape);
        needAmount(times, 2, 4);
        Change change = nextChange(Change.GROW, hand, shape);
        change.amount = times;
        return make(change);
    }

    public int paint(int hand, int shape, int colour)
            throws IndexOutOfBoundsException, IllegalArgumentException, IllegalStateException {
        needHand(hand);
        needShape(shape);
        needColour(colour);
        Change change = nextChange(Change.PAINT, hand, shape);
        change.colour = colour;
        return make(change);
    }

    public int raise(int hand, int shape, int how)
            throws IndexOutOfBoundsException, IllegalArgumentException, IllegalStateException {
        needHand(hand);
        needShape(shape);
        needAmount(how, 0, 3);
        Change change = nextChange(Change.RAISE, hand, shape);
        change.amount = how;
        return make(change);
    }

    public int toLayer(int hand, int shape, int layer)
            throws IndexOutOfBoundsException, IllegalStateException {
        needHand(hand);
        needShape(shape);
        needLayer(layer);
        Change change = nextChange(Change.TO_LAYER, hand, shape);
        change.layer = layer;
        return make(change);
    }

    public int show(int hand, int layer, boolean visible)
            throws IndexOutOfBoundsException, IllegalStateException {
        needHand(hand);
        needLayer(layer);
        Change change = nextChange(Change.SHOW, hand, NONE);
        change.layer = layer;
        change.flag = visible;
        return make(change);
    }

    // ---- ties, groups, guides

    public int tie(int hand, int shape, int leader, int kind)
            throws IndexOutOfBoundsException, IllegalArgumentException, IllegalStateException {
        needHand(hand);
        needShape(shape);
        needShape(leader);
        needAmount(kind, 0, 2);
        Change change = nextChange(Change.TIE, hand, shape);
        change.other = leader;
        change.amount = kind;
        return make(change);
    }

    public int untie(int hand, int shape) throws IndexOutOfBoundsException, IllegalStateException {
        needHand(hand);
        needShape(shape);
        return make(nextChange(Change.UNTIE, hand, shape));
    }

    public int ring(int shape, int leader, int place) throws IndexOutOfBoundsException {
        needShape(shape);
        needShape(leader);
        int length = board.ringLength(shape, leader);
        if (place == NONE) {
            return length;
        }
        if (place < 0 || place >= length) {
            throw new IndexOutOfBoundsException("no such place in the ring");
        }
        return board.ringMember(shape, leader, place);
    }

    public int gather(int hand, long shapes) throws IndexOutOfBoundsException, IllegalStateException {
        needHand(hand);
        if ((shapes & ~board.allThere()) != 0) {
            throw new IndexOutOfBoundsException("a shape of the set is not there");
        }
        Change change = nextChange(Change.GATHER, hand, NONE);
        change.set = shapes;
        return make(change);
    }

    public int scatter(int hand, int shape) throws IndexOutOfBoundsException, IllegalStateException {
        needHand(hand);
        needShape(shape);
        return make(nextChange(Change.SCATTER, hand, shape));
    }

    public int spread(int hand, int shape) throws IndexOutOfBoundsException, IllegalStateException {
        needHand(hand);
        needShape(shape);
        return make(nextChange(Change.SPREAD, hand, shape));
    }

    public int guide(int hand, boolean upright, int at)
            throws IndexOutOfBoundsException, IllegalArgumentException, IllegalStateException {
        needHand(hand);
        needAmount(at, 0, SIDE);
        Change change = nextChange(Change.GUIDE, hand, NONE);
        change.flag = upright;
        change.amount = at;
        return make(change);
    }

    public int snap(int hand, int shape) throws IndexOutOfBoundsException, IllegalStateException {
        needHand(hand);
        needShape(shape);
        return make(nextChange(Change.SNAP, hand, shape));
    }

    public int join(int hand, int how, int shape, int other)
            throws IndexOutOfBoundsException, IllegalArgumentException, IllegalStateException {
        needHand(hand);
        needShape(shape);
        needShape(other);
        needAmount(how, 0, LAWS - 1);
        Change change = nextChange(Change.JOIN, hand, shape);
        change.other = other;
        change.amount = how;
        return make(change);
    }

    public int undo(int hand) throws IndexOutOfBoundsException, IllegalStateException {
        needHand(hand);
        int latest = latestOf(hand);
        if (latest < 0 || latest >= MOST_CHANGES) {
            throw new IllegalStateException("no change of this hand stands");
        }
        journal[latest].isStanding = false;
        makeAnew();
        return latest;
    }

    // ---- what is there

    public long shapes() {
        return board.allThere();
    }

    public int shapeAt(int place) throws IndexOutOfBoundsException {
        int count = board.sortAll();
        if (place < 0 || place >= count) {
            throw new IndexOutOfBoundsException("no such place in the order");
        }
        return board.order[place];
    }

    public int of(int shape, int what) throws IndexOutOfBoundsException, IllegalArgumentException {
        Shape s = needShape(shape);
        needAmount(what, 0, 13);
        return what == 4 ? board.outermost(shape) : s.told(what);
    }

    public int corners(int shape, int polygon) throws IndexOutOfBoundsException {
        return needPolygon(shape, polygon).count;
    }

    public int corner(int shape, int polygon, int corner, boolean isY) throws IndexOutOfBoundsException {
        Polygon p = needPolygon(shape, polygon);
        if (corner < 0 || corner >= p.count) {
            throw new IndexOutOfBoundsException("no such corner");
        }
        return isY ? p.ys[corner] : p.xs[corner];
    }

    public boolean holds(int shape, int x, int y) throws IndexOutOfBoundsException, IllegalArgumentException {
        Shape s = needShape(shape);
        needHalves(x, y);
        return s.contains(x, y);
    }

    public int hit(int x, int y) throws IllegalArgumentException {
        needHalves(x, y);
        return board.uppermostAt(x, y);
    }

    public long caught(int x, int y, int wide, int high, boolean wholly) throws IllegalArgumentException {
        needRectangle(x, y, wide, high);
        catcher.begin(NONE, 1);
        catcher.parts[0].takeRectangle(x, y, wide, high);
        catcher.finishSingle();
        long set = 0;
        for (int i = 0; i < MOST_CHANGES; i++) {
            if (board.isSeen(i) && isCaught(board.all[i], wholly)) {
                set |= 1L << i;
            }
        }
        return set;
    }

    public int area(int shape, boolean below) throws IndexOutOfBoundsException {
        Shape s = needShape(shape);
        sweep.measure(s, nothing);
        return Sweep.fraction(sweep.sums[0], Sweep.UNITS, below);
    }

    public int areaOf(int how, int shape, int other, boolean below)
            throws IndexOutOfBoundsException, IllegalArgumentException {
        Shape first = needShape(shape);
        Shape second = needShape(other);
        if (how < 0 || how >= LAWS) {
            throw new IllegalArgumentException("how is 0 to 3");
        }
        sweep.measure(first, second);
        return Sweep.fraction(sweep.sums[how], Sweep.UNITS, below);
    }

    public int meetings(int shape, int other) throws IndexOutOfBoundsException {
        Shape first = needShape(shape);
        Shape second = needShape(other);
        crossings.find(first, second);
        return crossings.count;
    }

    public int meeting(int shape, int other, int place, int what)
            throws IndexOutOfBoundsException, IllegalArgumentException {
        Shape first = needShape(shape);
        Shape second = needShape(other);
        crossings.find(first, second);
        if (place < 0 || place >= crossings.count) {
            throw new IndexOutOfBoundsException("no such meeting");
        }
        needAmount(what, 0, 3);
        int value = what < 2 ? crossings.xAt(place) : crossings.yAt(place);
        return Sweep.fraction(value, Sweep.FINE, what % 2 == 1);
    }

    public int way(int shape, int other, boolean steps) throws IndexOutOfBoundsException {
        Shape first = needShape(shape);
        Shape second = needShape(other);
        picture.clear();
        for (int i = 0; i < MOST_CHANGES; i++) {
            if (i != shape && i != other && board.isSeen(i)) {
                picture.stamp(board.all[i], 0, 1);
            }
        }
        int cost = picture.cheapestWay(first.left, first.lower, second.left, second.lower);
        if (cost == NONE) {
            return NONE;
        }
        return steps ? cost % Picture.BEND : cost / Picture.BEND;
    }

    public int cell(int x, int y) throws IndexOutOfBoundsException {
        needCell(x, y);
        int shape = board.uppermostAt(2 * x + 1, 2 * y + 1);
        return shape < 0 || shape >= MOST_CHANGES ? 0 : board.all[shape].colour;
    }

    public int row(int y) throws IndexOutOfBoundsException {
        needCell(0, y);
        picture.clear();
        int count = board.sortAll();
        for (int i = 0; i < count; i++) {
            if (board.isSeen(board.order[i])) {
                Shape s = board.all[board.order[i]];
                picture.stampLine(s, y, 1, s.colour);
            }
        }
        return picture.weightedLine(y);
    }

    public int field(int x, int y) throws IndexOutOfBoundsException {
        needCell(x, y);
        picture.clear();
        int count = board.sortAll();
        for (int i = 0; i < count; i++) {
            if (board.isSeen(board.order[i])) {
                Shape s = board.all[board.order[i]];
                picture.stamp(s, 1, s.colour);
            }
        }
        return picture.sizeOfField(x, y);
    }

    public int changes() {
        return made;
    }

    public boolean stands(int change) throws IndexOutOfBoundsException {
        if (change < 0 || change >= made || change >= MOST_CHANGES) {
            throw new IndexOutOfBoundsException("no such change");
        }
        return journal[change].isStanding;
    }

    // ---- texts

    public int type(int sign) throws IllegalArgumentException, IllegalStateException {
        if (sign < 32 || sign > 126) {
            throw new IllegalArgumentException("a sign is 32 to 126");
        }
        if (tape.count >= Text.TAPE) {
            throw new IllegalStateException("the tape has 80 signs");
        }
        tape.put(sign);
        return tape.count;
    }

    public int wipe() {
        int had = tape.count;
        tape.clear();
        return had;
    }

    public int fault() {
        return tape.readCorners(tapePoints);
    }

    public int paper(int shape) throws IndexOutOfBoundsException {
        Shape s = needShape(shape);
        sheet.clear();
        for (int k = 0; k < s.count; k++) {
            if (k > 0) {
                sheet.put(';');
            }
            sheet.putCorners(s.parts[k]);
        }
        return sheet.count;
    }

    public int out(int place) throws IndexOutOfBoundsException {
        if (place < 0 || place >= sheet.count) {
            throw new IndexOutOfBoundsException("no such place in the out");
        }
        return sheet.signs[place];
    }

    public boolean isSound() {
        return board.isWellKept() && areAreasRight();
    }

    // ---- what calls need

    private static boolean isOnBoard(int at) {
        return at >= 0 && at <= SIDE;
    }

    private void needHand(int hand) {
        if (hand < 0 || hand >= HANDS) {
            throw new IndexOutOfBoundsException("no such hand");
        }
    }

    private void needLayer(int layer) {
        if (layer < 0 || layer >= LAYERS) {
            throw new IndexOutOfBoundsException("no such layer");
        }
    }

    private Shape needShape(int shape) {
        if (!board.isThere(shape)) {
            throw new IndexOutOfBoundsException("no such shape");
        }
        return board.all[shape];
    }

    private Polygon needPolygon(int shape, int polygon) {
        Shape s = needShape(shape);
        if (polygon < 0 || polygon >= s.count) {
            throw new IndexOutOfBoundsException("no such polygon");
        }
        return s.parts[polygon];
    }

    private void needCell(int x, int y) {
        if (x < 0 || x >= SIDE || y < 0 || y >= SIDE) {
            throw new IndexOutOfBoundsException("no such cell");
        }
    }

    private void needColour(int colour) {
        needAmount(colour, 1, COLOURS);
    }

    private void needHalves(int x, int y) {
        needAmount(x, 0, 2 * SIDE);
        needAmount(y, 0, 2 * SIDE);
    }

    private void needAmount(int amount, int least, int greatest) {
        if (amount < least || amount > greatest) {
            throw new IllegalArgumentException("an argument is out of range");
        }
    }

    private void needRectangle(int x, int y, int wide, int high) {
        if (wide < 1 || wide > SIDE || high < 1 || high > SIDE || !isOnBoard(x) || !isOnBoard(y)
                || !isOnBoard(x + wide) || !isOnBoard(y + high)) {
            throw new IllegalArgumentException("no rectangle on the board");
        }
    }

    // ---- making changes

    private Change nextChange(int what, int hand, int shape) {
        if (made < 0 || made >= MOST_CHANGES) {
            throw new IllegalStateException("no more changes can be made");
        }
        Change change = journal[made];
        change.begin(what, hand, shape);
        return change;
    }

    private Change nextDrawing(int hand, int layer, int colour) {
        Change change = nextChange(Change.DRAW, hand, NONE);
        change.layer = layer;
        change.colour = colour;
        return change;
    }

    private Change nextPolygon(int hand, int layer, int colour, Polygon points) {
        if (!points.isProper()) {
            throw new IllegalStateException("these are no corners of a polygon");
        }
        Change change = nextDrawing(hand, layer, colour);
        change.outline.take(points);
        return change;
    }

    private Change nextByLots(int hand) {
        int kind = lots.next(4);
        int layer = lots.next(LAYERS);
        int colour = lots.next(COLOURS) + 1;
        int x = lots.next(40);
        int y = lots.next(40);
        int n = lots.next(10) + 1;
        Change change = nextDrawing(hand, layer, colour);
        if (kind == 0) {
            change.outline.takeRectangle(x, y, 2 * n, n);
        } else if (kind == 1) {
            change.outline.takeRectangle(x, y, n, 2 * n);
        } else if (kind == 2) {
            change.outline.takeDiamond(x + n, y + n, n);
        } else {
            change.outline.clear();
            change.outline.add(x, y);
            change.outline.add(x + 2 * n, y);
            change.outline.add(x, y + n);
        }
        return change;
    }

    /** The change is the next one of the journal; it counts as made only if the board does not refuse it. */
    private int make(Change change) {
        int answer = board.perform(change, made);
        if (answer == REFUSED) {
            throw new IllegalStateException("it can not be done");
        }
        change.isStanding = true;
        made++;
        return answer;
    }

    private int latestOf(int hand) {
        int latest = NONE;
        for (int i = 0; i < made && i < MOST_CHANGES; i++) {
            if (journal[i].isStanding && journal[i].hand == hand) {
                latest = i;
            }
        }
        return latest;
    }

    private void makeAnew() {
        board.clear();
        for (int i = 0; i < made && i < MOST_CHANGES; i++) {
            if (journal[i].isStanding) {
                board.perform(journal[i], i);
            }
        }
    }

    // ---- areas

    private boolean isCaught(Shape s, boolean wholly) {
        if (wholly) {
            return s.left >= catcher.left && s.right <= catcher.right
                    && s.lower >= catcher.lower && s.upper <= catcher.upper;
        }
        sweep.measure(s, catcher);
        return sweep.sums[1] > 0;
    }

    /** Each area is measured by itself as well, so that the sums are held against something else. */
    private boolean areAreasRight() {
        int count = board.sortAll();
        int before = 0;
        for (int i = 0; i < count; i++) {
            Shape s = board.all[board.order[i]];
            sweep.measure(s, nothing);
            int alone = sweep.sums[0];
            if (i > 0) {
                sweep.measure(board.all[board.order[i - 1]], s);
                if (sweep.sums[0] + sweep.sums[1] != before + alone
                        || sweep.sums[2] + sweep.sums[1] != before) {
                    return false;
                }
            }
            before = alone;
        }
        return true;
    }

    /** A row of corners: those of a polygon, or the points of the pen. */
    private static final class Polygon {
        int count;
        final int[] xs = new int[MOST_CORNERS];
        final int[] ys = new int[MOST_CORNERS];

        void clear() {
            count = 0;
        }

        void add(int x, int y) {
            if (count >= 0 && count < MOST_CORNERS) {
                xs[count] = x;
                ys[count] = y;
                count++;
            }
        }

        void take(Polygon other) {
            clear();
            for (int i = 0; i < other.count; i++) {
                add(other.xs[i], other.ys[i]);
            }
        }

        void takeRectangle(int x, int y, int wide, int high) {
            clear();
            add(x, y);
            add(x + wide, y);
            add(x + wide, y + high);
            add(x, y + high);
        }

        void takeDiamond(int x, int y, int reach) {
            clear();
            add(x - reach, y);
            add(x, y - reach);
            add(x + reach, y);
            add(x, y + reach);
        }

        int after(int i) {
            return i + 1 < count ? i + 1 : 0;
        }

        int wide(int edge) {
            return xs[after(edge)] - xs[edge];
        }

        int high(int edge) {
            return ys[after(edge)] - ys[edge];
        }

        boolean isProper() {
            if (count < 3) {
                return false;
            }
            for (int i = 0; i < count; i++) {
                if (!isOnBoard(xs[i]) || !isOnBoard(ys[i]) || !canGo(Math.abs(wide(i)), Math.abs(high(i)))) {
                    return false;
                }
            }
            return true;
        }

        static boolean canGo(int wide, int high) {
            if (wide == 0 || high == 0) {
                return wide != high;
            }
            return wide == high || wide == 2 * high || high == 2 * wide;
        }

        /** Doubled, the way across for each 1 up is whole for all edges that may be; 0 for a level one. */
        int doubledLean(int edge) {
            int end = after(edge);
            int high = ys[end] - ys[edge];
            return high == 0 ? 0 : 2 * (xs[end] - xs[edge]) / high;
        }

        boolean isCut(int edge, int doubledY) {
            return (2 * ys[edge] > doubledY) != (2 * ys[after(edge)] > doubledY);
        }

        /** In quarters, an edge's x at a y in halves is whole. */
        int quartersAt(int edge, int doubledY) {
            return 4 * xs[edge] + (doubledY - 2 * ys[edge]) * doubledLean(edge);
        }

        boolean contains(int doubledX, int doubledY) {
            boolean odd = false;
            for (int i = 0; i < count; i++) {
                if (isCut(i, doubledY) && quartersAt(i, doubledY) > 2 * doubledX) {
                    odd = !odd;
                }
            }
            return odd;
        }
    }

    /** One shape of the board; its number is its place among the board's shapes. */
    private static final class Shape {
        boolean isThere;
        int layer;
        int colour;
        int keyTop;
        int keyBottom;
        int hand;
        int leader;
        int kind;
        int group;
        int table;
        int count;
        int left;
        int lower;
        int right;
        int upper;
        final Polygon[] parts;

        Shape() {
            parts = new Polygon[MOST_POLYGONS];
            for (int k = 0; k < MOST_POLYGONS; k++) {
                parts[k] = new Polygon();
            }
            leader = NONE;
            kind = NONE;
            group = NONE;
            keyTop = 1;
            keyBottom = 1;
        }

        void begin(int itsHand, int itsColour) {
            isThere = true;
            hand = itsHand;
            colour = itsColour;
            leader = NONE;
            kind = NONE;
            group = NONE;
        }

        void finishSingle() {
            count = 1;
            table = 2;
            findFrame();
        }

        void takeJoined(int how, Shape first, Shape second) {
            count = 0;
            for (int k = 0; k < first.count && count < MOST_POLYGONS; k++) {
                parts[count].take(first.parts[k]);
                count++;
            }
            for (int k = 0; k < second.count && count < MOST_POLYGONS; k++) {
                parts[count].take(second.parts[k]);
                count++;
            }
            table = 0;
            for (int set = 0; set < 1 << count; set++) {
                if (Sweep.isHeld(how, first.hasSet(first.ownPart(set)), second.hasSet(set >> first.count))) {
                    table |= 1 << set;
                }
            }
            findFrame();
        }

        boolean hasSet(int set) {
            return (table >> set & 1) == 1;
        }

        int ownPart(int set) {
            return set & ((1 << count) - 1);
        }

        boolean contains(int doubledX, int doubledY) {
            int set = 0;
            for (int k = 0; k < count; k++) {
                if (parts[k].contains(doubledX, doubledY)) {
                    set |= 1 << k;
                }
            }
            return hasSet(set);
        }

        void findFrame() {
            left = parts[0].xs[0];
            right = left;
            lower = parts[0].ys[0];
            upper = lower;
            for (int k = 0; k < count; k++) {
                Polygon p = parts[k];
                for (int i = 0; i < p.count; i++) {
                    left = p.xs[i] < left ? p.xs[i] : left;
                    right = p.xs[i] > right ? p.xs[i] : right;
                    lower = p.ys[i] < lower ? p.ys[i] : lower;
                    upper = p.ys[i] > upper ? p.ys[i] : upper;
                }
            }
        }

        int told(int what) {
            switch (what) {
                case 0: return layer;
                case 1: return colour;
                case 2: return leader;
                case 3: return kind;
                case 5: return count;
                case 6: return table;
                case 7: return keyTop;
                case 8: return keyBottom;
                case 9: return hand;
                case 10: return left;
                case 11: return lower;
                case 12: return right;
                default: return upper;
            }
        }

        boolean canShift(int dx, int dy) {
            return left + dx >= 0 && right + dx <= SIDE && lower + dy >= 0 && upper + dy <= SIDE;
        }

        void shift(int dx, int dy) {
            for (int k = 0; k < count; k++) {
                Polygon p = parts[k];
                for (int i = 0; i < p.count; i++) {
                    p.xs[i] += dx;
                    p.ys[i] += dy;
                }
            }
            left += dx;
            right += dx;
            lower += dy;
            upper += dy;
        }

        void turnQuarter() {
            for (int k = 0; k < count; k++) {
                Polygon p = parts[k];
                for (int i = 0; i < p.count; i++) {
                    int across = p.xs[i] - left;
                    p.xs[i] = left + upper - p.ys[i];
                    p.ys[i] = lower + across;
                }
            }
            findFrame();
        }

        int flip(boolean upright) {
            int flipped = 0;
            for (int k = 0; k < count; k++) {
                Polygon p = parts[k];
                for (int i = 0; i < p.count; i++) {
                    if (upright) {
                        p.xs[i] = left + right - p.xs[i];
                    } else {
                        p.ys[i] = lower + upper - p.ys[i];
                    }
                    flipped++;
                }
            }
            return flipped;
        }

        void enlarge(int times) {
            for (int k = 0; k < count; k++) {
                Polygon p = parts[k];
                for (int i = 0; i < p.count; i++) {
                    p.xs[i] = left + times * (p.xs[i] - left);
                    p.ys[i] = lower + times * (p.ys[i] - lower);
                }
            }
            findFrame();
        }
    }

    /** One change as it was asked for, so that it can be done again. */
    private static final class Change {
        static final int DRAW = 0;
        static final int ERASE = 1;
        static final int MOVE = 2;
        static final int TURN = 3;
        static final int MIRROR = 4;
        static final int GROW = 5;
        static final int PAINT = 6;
        static final int RAISE = 7;
        static final int TO_LAYER = 8;
        static final int SHOW = 9;
        static final int TIE = 10;
        static final int UNTIE = 11;
        static final int GATHER = 12;
        static final int SCATTER = 13;
        static final int SPREAD = 14;
        static final int GUIDE = 15;
        static final int SNAP = 16;
        static final int JOIN = 17;

        int what;
        int hand;
        int shape;
        int other;
        int layer;
        int colour;
        int across;
        int up;
        int amount;
        boolean flag;
        long set;
        boolean isStanding;
        final Polygon outline = new Polygon();

        void begin(int itsKind, int itsHand, int itsShape) {
            what = itsKind;
            hand = itsHand;
            shape = itsShape;
            other = NONE;
            layer = 0;
            colour = 1;
            across = 0;
            up = 0;
            amount = 0;
            flag = false;
            set = 0;
            isStanding = false;
            outline.clear();
        }
    }

    /** What the changes that stand have made: shapes and their order, ties, groups, guides. */
    private static final class Board {
        private static final int GREATEST_BOTTOM = 50;

        final Shape[] all;
        final int[] order;
        private final boolean[] isHidden;
        /** Of each group the one that it is a member of. */
        private final int[] outer;
        private final boolean[] isChosen;
        private final int[] across;
        private final int[] up;
        private final Guides guides;

        Board() {
            all = new Shape[MOST_CHANGES];
            order = new int[MOST_CHANGES];
            isHidden = new boolean[LAYERS];
            outer = new int[MOST_CHANGES];
            isChosen = new boolean[MOST_CHANGES];
            across = new int[MOST_CHANGES];
            up = new int[MOST_CHANGES];
            guides = new Guides();
            for (int i = 0; i < MOST_CHANGES; i++) {
                all[i] = new Shape();
            }
            Arrays.fill(outer, NONE);
        }

        void clear() {
            for (int i = 0; i < MOST_CHANGES; i++) {
                all[i].isThere = false;
            }
            for (int i = 0; i < LAYERS; i++) {
                isHidden[i] = false;
            }
            Arrays.fill(outer, NONE);
            guides.count = 0;
        }

        boolean isThere(int shape) {
            return shape >= 0 && shape < MOST_CHANGES && all[shape].isThere;
        }

        boolean isSeen(int shape) {
            return isThere(shape) && !isHidden[all[shape].layer];
        }

        long allThere() {
            long set = 0;
            for (int i = 0; i < MOST_CHANGES; i++) {
                if (all[i].isThere) {
                    set |= 1L << i;
                }
            }
            return set;
        }

        /** Does a change, or changes nothing and answers REFUSED where it would throw. */
        int perform(Change c, int number) {
            if (number < 0 || number >= MOST_CHANGES || c.shape != NONE && !isThere(c.shape)
                    || c.other != NONE && !isThere(c.other)) {
                return REFUSED;
            }
            switch (c.what) {
                case Change.DRAW: return drawn(c, number);
                case Change.ERASE: return erased(c.shape);
                case Change.MOVE: return moved(c);
                case Change.TURN: return turned(all[c.shape], c.amount);
                case Change.MIRROR: return all[c.shape].flip(c.flag);
                case Change.GROW: return grown(all[c.shape], c.amount);
                case Change.PAINT: return painted(all[c.shape], c.colour);
                case Change.RAISE: return raised(c.shape, c.amount);
                case Change.TO_LAYER: return putIntoLayer(c.shape, c.layer);
                case Change.SHOW: return shown(c.layer, c.flag);
                case Change.TIE: return tied(c.shape, c.other, c.amount);
                case Change.UNTIE: return untied(all[c.shape]);
                case Change.GATHER: return gathered(c.set, number);
                case Change.SCATTER: return scattered(c.shape);
                case Change.SPREAD: return spaced(c.shape);
                case Change.GUIDE: return guides.put(c.flag, c.amount);
                case Change.SNAP: return snapped(c.shape);
                case Change.JOIN: return joined(c, number);
                default: return REFUSED;
            }
        }

        // -- single shapes

        private int drawn(Change c, int number) {
            Shape s = all[number];
            s.begin(c.hand, c.colour);
            s.parts[0].take(c.outline);
            s.finishSingle();
            putIntoLayer(number, c.layer);
            return number;
        }

        private int joined(Change c, int number) {
            Shape first = all[c.shape];
            Shape second = all[c.other];
            if (first.count + second.count > MOST_POLYGONS) {
                return REFUSED;
            }
            Shape s = all[number];
            s.begin(c.hand, first.colour);
            s.takeJoined(c.amount, first, second);
            putIntoLayer(number, first.layer);
            return number;
        }

        private int erased(int shape) {
            int followers = 0;
            for (int i = 0; i < MOST_CHANGES; i++) {
                Shape s = all[i];
                if (s.isThere && s.leader == shape) {
                    s.leader = NONE;
                    s.kind = NONE;
                    followers++;
                }
            }
            all[shape].isThere = false;
            return followers;
        }

        private int turned(Shape s, int quarters) {
            boolean liesDown = quarters % 2 == 1;
            if (liesDown && (s.left + s.upper - s.lower > SIDE || s.lower + s.right - s.left > SIDE)) {
                return REFUSED;
            }
            for (int i = 0; i < quarters; i++) {
                s.turnQuarter();
            }
            return s.right;
        }

        private int grown(Shape s, int times) {
            if (s.left + times * (s.right - s.left) > SIDE || s.lower + times * (s.upper - s.lower) > SIDE) {
                return REFUSED;
            }
            s.enlarge(times);
            return s.right;
        }

        private int painted(Shape s, int colour) {
            int before = s.colour;
            s.colour = colour;
            return before;
        }

        // -- order

        private boolean isInLayer(int shape, int layer) {
            return all[shape].isThere && all[shape].layer == layer;
        }

        private static boolean isBelow(Shape one, Shape other) {
            if (one.layer != other.layer) {
                return one.layer < other.layer;
            }
            return one.keyTop * other.keyBottom < other.keyTop * one.keyBottom;
        }

        /** Puts all shapes into the row of the order; answers how many there are. */
        int sortAll() {
            int count = 0;
            for (int i = 0; i < MOST_CHANGES; i++) {
                if (all[i].isThere) {
                    int at = count;
                    while (at > 0 && isBelow(all[i], all[order[at - 1]])) {
                        order[at] = order[at - 1];
                        at--;
                    }
                    order[at] = i;
                    count++;
                }
            }
            return count;
        }

        int uppermostAt(int doubledX, int doubledY) {
            int found = NONE;
            for (int i = 0; i < MOST_CHANGES; i++) {
                if (isSeen(i) && all[i].contains(doubledX, doubledY)
                        && (found == NONE || isBelow(all[found], all[i]))) {
                    found = i;
                }
            }
            return found;
        }

        private static int wholePart(int top, int bottom) {
            return bottom > 0 ? top / bottom : 0;
        }

        private int putIntoLayer(int shape, int layer) {
            int greatest = 0;
            for (int i = 0; i < MOST_CHANGES; i++) {
                if (i != shape && isInLayer(i, layer)) {
                    greatest = Math.max(greatest, wholePart(all[i].keyTop, all[i].keyBottom));
                }
            }
            Shape s = all[shape];
            int before = s.layer;
            s.layer = layer;
            s.keyTop = greatest + 1;
            s.keyBottom = 1;
            return before;
        }

        private int nextAbove(int shape) {
            int found = NONE;
            for (int i = 0; i < MOST_CHANGES; i++) {
                if (isInLayer(i, all[shape].layer) && isBelow(all[shape], all[i])
                        && (found == NONE || isBelow(all[i], all[found]))) {
                    found = i;
                }
            }
            return found;
        }

        private int nextBelow(int shape) {
            int found = NONE;
            for (int i = 0; i < MOST_CHANGES; i++) {
                if (isInLayer(i, all[shape].layer) && isBelow(all[i], all[shape])
                        && (found == NONE || isBelow(all[found], all[i]))) {
                    found = i;
                }
            }
            return found;
        }

        private int raised(int shape, int how) {
            int above = nextAbove(shape);
            int below = nextBelow(shape);
            int further = how == 0 && above != NONE ? nextAbove(above) : NONE;
            if (further != NONE) {
                putBetween(shape, above, further);
            } else if ((how == 0 || how == 2) && above != NONE) {
                putIntoLayer(shape, all[shape].layer);
            } else if (how == 1 && below != NONE) {
                putBetween(shape, nextBelow(below), below);
            } else if (how == 3 && below != NONE) {
                putBetween(shape, NONE, lowestOf(all[shape].layer));
            }
            return countBelow(shape);
        }

        private int countBelow(int shape) {
            int count = 0;
            for (int i = 0; i < MOST_CHANGES; i++) {
                if (isInLayer(i, all[shape].layer) && isBelow(all[i], all[shape])) {
                    count++;
                }
            }
            return count;
        }

        private int lowestOf(int layer) {
            int found = NONE;
            for (int i = 0; i < MOST_CHANGES; i++) {
                if (isInLayer(i, layer) && (found == NONE || isBelow(all[i], all[found]))) {
                    found = i;
                }
            }
            return found;
        }

        /** Without a lower one, 0 is in its place. */
        private void putBetween(int shape, int lower, int higher) {
            if (higher == NONE || findKeyBetween(shape, lower, higher)) {
                return;
            }
            int count = sortAll();
            int key = 0;
            for (int i = 0; i < count; i++) {
                Shape s = all[order[i]];
                if (s.layer == all[shape].layer) {
                    key++;
                    s.keyTop = key;
                    s.keyBottom = 1;
                }
            }
            findKeyBetween(shape, lower, higher);
        }

        private boolean findKeyBetween(int shape, int lower, int higher) {
            int lowTop = lower == NONE ? 0 : all[lower].keyTop;
            int lowBottom = lower == NONE ? 1 : all[lower].keyBottom;
            int highTop = all[higher].keyTop;
            int highBottom = all[higher].keyBottom;
            for (int bottom = 1; bottom <= GREATEST_BOTTOM; bottom++) {
                int top = wholePart(lowTop * bottom, lowBottom) + 1;
                if (top * highBottom < highTop * bottom) {
                    all[shape].keyTop = top;
                    all[shape].keyBottom = bottom;
                    return true;
                }
            }
            return false;
        }

        private int shown(int layer, boolean visible) {
            isHidden[layer] = !visible;
            int count = 0;
            for (int i = 0; i < MOST_CHANGES; i++) {
                if (isInLayer(i, layer)) {
                    count++;
                }
            }
            return count;
        }

        // -- ties

        int ringLength(int shape, int leader) {
            int at = leader;
            for (int length = 1; length <= MOST_CHANGES && at != NONE; length++) {
                if (at == shape) {
                    return length;
                }
                at = all[at].leader;
            }
            return 0;
        }

        int ringMember(int shape, int leader, int place) {
            int at = shape;
            for (int i = 0; i < place && at != NONE; i++) {
                at = i == 0 ? leader : all[at].leader;
            }
            return at;
        }

        private int tied(int shape, int leader, int kind) {
            if (ringLength(shape, leader) > 0) {
                return REFUSED;
            }
            all[shape].leader = leader;
            all[shape].kind = kind;
            int over = 0;
            for (int at = all[leader].leader; at != NONE && over < MOST_CHANGES; at = all[at].leader) {
                over++;
            }
            return over;
        }

        private int untied(Shape s) {
            if (s.leader == NONE) {
                return REFUSED;
            }
            int before = s.leader;
            s.leader = NONE;
            s.kind = NONE;
            return before;
        }

        private int moved(Change c) {
            if (c.flag) {
                chooseNone();
                isChosen[c.shape] = true;
            } else {
                chooseTogether(c.shape);
            }
            return shiftChosen(c.across, c.up);
        }

        private int snapped(int shape) {
            chooseTogether(shape);
            int left = SIDE;
            int lower = SIDE;
            int right = 0;
            int upper = 0;
            for (int i = 0; i < MOST_CHANGES; i++) {
                if (isChosen[i]) {
                    left = Math.min(left, all[i].left);
                    lower = Math.min(lower, all[i].lower);
                    right = Math.max(right, all[i].right);
                    upper = Math.max(upper, all[i].upper);
                }
            }
            int dx = guides.pull(true, left, right);
            int dy = guides.pull(false, lower, upper);
            return shiftChosen(dx, dy) == REFUSED ? REFUSED : Math.abs(dx) + Math.abs(dy);
        }

        /** Moves the chosen shapes and all that follow them; answers how many have come elsewhere. */
        private int shiftChosen(int dx, int dy) {
            for (int i = 0; i < MOST_CHANGES; i++) {
                across[i] = 0;
                up[i] = 0;
                if (all[i].isThere) {
                    findShift(i, dx, dy);
                    if (!all[i].canShift(across[i], up[i])) {
                        return REFUSED;
                    }
                }
            }
            int count = 0;
            for (int i = 0; i < MOST_CHANGES; i++) {
                if (all[i].isThere && (across[i] != 0 || up[i] != 0)) {
                    all[i].shift(across[i], up[i]);
                    count++;
                }
            }
            return count;
        }

        /** A tie on the way to a chosen leader that goes only across, or only up, holds back the rest. */
        private void findShift(int shape, int dx, int dy) {
            boolean goesAcross = true;
            boolean goesUp = true;
            int at = shape;
            for (int i = 0; i < MOST_CHANGES && at != NONE; i++) {
                if (isChosen[at]) {
                    across[shape] = goesAcross ? dx : 0;
                    up[shape] = goesUp ? dy : 0;
                    return;
                }
                goesAcross = goesAcross && all[at].kind != 2;
                goesUp = goesUp && all[at].kind != 1;
                at = all[at].leader;
            }
        }

        // -- groups

        int outermost(int shape) {
            int group = all[shape].group;
            for (int i = 0; i < MOST_CHANGES && group != NONE && outer[group] != NONE; i++) {
                group = outer[group];
            }
            return group;
        }

        private void chooseNone() {
            for (int i = 0; i < MOST_CHANGES; i++) {
                isChosen[i] = false;
            }
        }

        private void chooseTogether(int shape) {
            chooseNone();
            isChosen[shape] = true;
            int group = outermost(shape);
            for (int i = 0; i < MOST_CHANGES && group != NONE; i++) {
                isChosen[i] = all[i].isThere && outermost(i) == group;
            }
        }

        private int gathered(long set, int number) {
            if ((set & ~allThere()) != 0 || countMembers(set) < 2) {
                return REFUSED;
            }
            for (int i = 0; i < MOST_CHANGES; i++) {
                if ((set >> i & 1) == 1) {
                    int group = outermost(i);
                    if (group == NONE) {
                        all[i].group = number;
                    } else if (group != number) {
                        outer[group] = number;
                    }
                }
            }
            return number;
        }

        private int countMembers(long set) {
            chooseNone();
            int count = 0;
            for (int i = 0; i < MOST_CHANGES; i++) {
                if ((set >> i & 1) == 1) {
                    int group = outermost(i);
                    if (group == NONE || !isChosen[group]) {
                        count++;
                    }
                    if (group != NONE) {
                        isChosen[group] = true;
                    }
                }
            }
            return count;
        }

        private int scattered(int shape) {
            int group = outermost(shape);
            if (group == NONE) {
                return REFUSED;
            }
            int count = 0;
            for (int i = 0; i < MOST_CHANGES; i++) {
                if (all[i].isThere && all[i].group == group) {
                    all[i].group = NONE;
                    count++;
                }
                if (outer[i] == group) {
                    outer[i] = NONE;
                    count++;
                }
            }
            return count;
        }

        private int spaced(int shape) {
            chooseTogether(shape);
            int count = sortChosenByLeft();
            if (count < 3) {
                return REFUSED;
            }
            int free = all[order[count - 1]].left - all[order[0]].right;
            for (int i = 1; i < count - 1; i++) {
                free -= all[order[i]].right - all[order[i]].left;
            }
            return free < 0 ? REFUSED : shareGaps(count, free);
        }

        private int sortChosenByLeft() {
            int count = 0;
            for (int i = 0; i < MOST_CHANGES; i++) {
                if (isChosen[i]) {
                    int at = count;
                    while (at > 0 && all[i].left < all[order[at - 1]].left) {
                        order[at] = order[at - 1];
                        at--;
                    }
                    order[at] = i;
                    count++;
                }
            }
            return count;
        }

        private int shareGaps(int count, int free) {
            int gaps = count - 1;
            if (gaps <= 0) {
                return 0;
            }
            int moved = 0;
            int end = all[order[0]].right;
            for (int i = 1; i < gaps; i++) {
                Shape s = all[order[i]];
                int dx = end + free / gaps + (i <= free % gaps ? 1 : 0) - s.left;
                if (dx != 0) {
                    s.shift(dx, 0);
                    moved++;
                }
                end = s.right;
            }
            return moved;
        }

        // -- soundness

        boolean isWellKept() {
            int count = sortAll();
            for (int i = 0; i < count; i++) {
                if (!isShapeSound(order[i]) || !isTieSound(order[i]) || !isGroupSound(all[order[i]].group)) {
                    return false;
                }
                if (i > 0 && !isBelow(all[order[i - 1]], all[order[i]])) {
                    return false;
                }
            }
            return true;
        }

        private boolean isShapeSound(int shape) {
            Shape s = all[shape];
            if (s.count < 1 || s.count > MOST_POLYGONS || s.table < 0 || s.table >> (1 << s.count) != 0) {
                return false;
            }
            for (int k = 0; k < s.count; k++) {
                if (!s.parts[k].isProper()) {
                    return false;
                }
            }
            return s.keyTop > 0 && s.keyBottom > 0 && s.keyBottom <= GREATEST_BOTTOM;
        }

        private boolean isTieSound(int shape) {
            int leader = all[shape].leader;
            return leader == NONE || isThere(leader) && ringLength(shape, leader) == 0;
        }

        private boolean isGroupSound(int group) {
            int at = group;
            for (int i = 0; i < MOST_CHANGES && at != NONE; i++) {
                at = outer[at];
            }
            return at == NONE;
        }
    }

    /** The guides that are put up. */
    private static final class Guides {
        private static final int MOST = 8;
        private static final int REACH = 5;

        int count;
        private final boolean[] isUpright = new boolean[MOST];
        private final int[] places = new int[MOST];

        int put(boolean upright, int place) {
            if (count < 0 || count >= MOST) {
                return REFUSED;
            }
            for (int i = 0; i < count; i++) {
                if (isUpright[i] == upright && places[i] == place) {
                    return REFUSED;
                }
            }
            isUpright[count] = upright;
            places[count] = place;
            count++;
            return count;
        }

        /** By how much a side or the middle of what lies from low to high is pulled to a guide. */
        int pull(boolean upright, int low, int high) {
            int least = REACH + 1;
            int shift = 0;
            for (int side = 0; side <= 2; side++) {
                int doubled = (2 - side) * low + side * high;
                int guide = doubled % 2 == 0 ? nearest(upright, doubled / 2) : NONE;
                if (guide != NONE && Math.abs(guide - doubled / 2) < least) {
                    shift = guide - doubled / 2;
                    least = Math.abs(shift);
                }
            }
            return shift;
        }

        private int nearest(boolean upright, int place) {
            int found = NONE;
            for (int i = 0; i < count; i++) {
                if (isUpright[i] == upright) {
                    int further = Math.abs(places[i] - place) - Math.abs(found - place);
                    if (found == NONE || further < 0 || further == 0 && places[i] < found) {
                        found = places[i];
                    }
                }
            }
            return found;
        }
    }

    /**
     * Measures areas by strips. Edges as they may be cross where x and y are whole sixtieths, so the
     * board is cut level at each y of a crossing or a corner, and within a strip the edges that go
     * through it stay in the same order.
     */
    private static final class Sweep {
        static final int FINE = 60;
        /** A strip's height is told in sixtieths, the x in its middle in parts of 240. */
        static final int UNITS = FINE * 240;
        private static final int MOST_EDGES = 2 * MOST_POLYGONS * MOST_CORNERS;

        final int[] sums = new int[LAWS];
        private int edges;
        private final int[] low = new int[MOST_EDGES];
        private final int[] high = new int[MOST_EDGES];
        private final int[] lean = new int[MOST_EDGES];
        /** Doubled, the x that the edge's line has at y 0. */
        private final int[] base = new int[MOST_EDGES];
        private final int[] bit = new int[MOST_EDGES];
        private final int[] middle = new int[MOST_EDGES];
        private final int[] open = new int[MOST_EDGES];
        private int opened;
        private int lowest;
        private int highest;
        /** All false between the measurings. */
        private final boolean[] isCut = new boolean[SIDE * FINE + 1];

        static boolean isHeld(int how, boolean byFirst, boolean bySecond) {
            switch (how) {
                case 0: return byFirst || bySecond;
                case 1: return byFirst && bySecond;
                case 2: return byFirst && !bySecond;
                default: return byFirst != bySecond;
            }
        }

        /** The top of the fraction top / bottom, or what is below it, with the least positive bottom. */
        static int fraction(int top, int bottom, boolean below) {
            int a = top;
            int b = bottom;
            for (int i = 0; i < 64 && a != 0; i++) {
                int rest = b % a;
                b = a;
                a = rest;
            }
            int shared = b == 0 ? 1 : b;
            return (below ? bottom : top) / shared;
        }

        /** Fills the sums, by how, with the areas of what the two make, in units. */
        void measure(Shape first, Shape second) {
            edges = 0;
            lowest = SIDE * FINE;
            highest = 0;
            load(first, 0);
            load(second, first.count);
            cutAtCrossings();
            Arrays.fill(sums, 0);
            opened = 0;
            int from = NONE;
            for (int y = Math.max(lowest, 0); y <= highest && y < isCut.length; y++) {
                if (isCut[y]) {
                    isCut[y] = false;
                    if (from != NONE) {
                        openStrip(from, y);
                        addStrip(y - from, first, second);
                    }
                    from = y;
                }
            }
        }

        private void load(Shape s, int firstBit) {
            for (int k = 0; k < s.count; k++) {
                Polygon p = s.parts[k];
                for (int i = 0; i < p.count; i++) {
                    loadEdge(p, i, 1 << firstBit + k);
                }
            }
        }

        private void loadEdge(Polygon p, int i, int itsBit) {
            int y = p.ys[i];
            int end = p.ys[p.after(i)];
            if (y == end || edges < 0 || edges >= MOST_EDGES || !isOnBoard(y) || !isOnBoard(end)) {
                return;
            }
            low[edges] = Math.min(y, end) * FINE;
            high[edges] = Math.max(y, end) * FINE;
            lean[edges] = p.doubledLean(i);
            base[edges] = 2 * p.xs[i] - y * lean[edges];
            bit[edges] = itsBit;
            isCut[low[edges]] = true;
            isCut[high[edges]] = true;
            lowest = Math.min(lowest, low[edges]);
            highest = Math.max(highest, high[edges]);
            edges++;
        }

        private void cutAtCrossings() {
            for (int e = 0; e < edges; e++) {
                for (int f = 0; f < e; f++) {
                    int leaning = lean[e] - lean[f];
                    if (leaning != 0) {
                        int y = FINE * (base[f] - base[e]) / leaning;
                        if (y > Math.max(low[e], low[f]) && y < Math.min(high[e], high[f])) {
                            isCut[y] = true;
                        }
                    }
                }
            }
        }

        /** Keeps the open edges in their order from strip to strip, so that little is to be sorted. */
        private void openStrip(int from, int to) {
            int kept = 0;
            for (int i = 0; i < opened; i++) {
                if (high[open[i]] > from) {
                    open[kept] = open[i];
                    kept++;
                }
            }
            opened = kept;
            for (int e = 0; e < edges && opened < MOST_EDGES; e++) {
                if (low[e] == from) {
                    open[opened] = e;
                    opened++;
                }
            }
            for (int i = 0; i < opened; i++) {
                int e = open[i];
                middle[e] = 120 * base[e] + (from + to) * lean[e];
                int at = i;
                while (at > 0 && middle[open[at - 1]] > middle[e]) {
                    open[at] = open[at - 1];
                    at--;
                }
                open[at] = e;
            }
        }

        private void addStrip(int height, Shape first, Shape second) {
            int set = 0;
            for (int i = 0; i + 1 < opened; i++) {
                set ^= bit[open[i]];
                int part = height * (middle[open[i + 1]] - middle[open[i]]);
                boolean byFirst = first.hasSet(first.ownPart(set));
                boolean bySecond = second.hasSet(set >> first.count);
                for (int how = 0; how < LAWS; how++) {
                    if (isHeld(how, byFirst, bySecond)) {
                        sums[how] += part;
                    }
                }
            }
        }
    }

    /** The points in which two shapes meet, in their order. */
    private static final class Crossings {
        private static final int MOST = MOST_POLYGONS * MOST_CORNERS * MOST_POLYGONS * MOST_CORNERS;
        /** Greater than each coordinate, so that one number tells a point and sorts as points do. */
        private static final int STRIDE = SIDE * Sweep.FINE + 1;

        int count;
        private final int[] points = new int[MOST];

        int xAt(int place) {
            return points[place] / STRIDE;
        }

        int yAt(int place) {
            return points[place] % STRIDE;
        }

        void find(Shape first, Shape second) {
            count = 0;
            for (int k = 0; k < first.count; k++) {
                for (int l = 0; l < second.count; l++) {
                    findBetween(first.parts[k], second.parts[l]);
                }
            }
        }

        private void findBetween(Polygon p, Polygon q) {
            for (int i = 0; i < p.count; i++) {
                for (int j = 0; j < q.count; j++) {
                    meet(p, i, q, j);
                }
            }
        }

        private void meet(Polygon p, int i, Polygon q, int j) {
            int wide = p.wide(i);
            int high = p.high(i);
            int cross = wide * q.high(j) - high * q.wide(j);
            if (cross == 0) {
                return;
            }
            int dx = q.xs[j] - p.xs[i];
            int dy = q.ys[j] - p.ys[i];
            int along = dx * q.high(j) - dy * q.wide(j);
            int alongOther = dx * high - dy * wide;
            if (isWithin(along, cross) && isWithin(alongOther, cross)) {
                int x = Sweep.FINE * p.xs[i] + Sweep.FINE * along * wide / cross;
                int y = Sweep.FINE * p.ys[i] + Sweep.FINE * along * high / cross;
                put(x * STRIDE + y);
            }
        }

        /** Whether the fraction part / whole is from 0 to 1. */
        private static boolean isWithin(int part, int whole) {
            return whole > 0 ? part >= 0 && part <= whole : part <= 0 && part >= whole;
        }

        private void put(int point) {
            int at = count;
            while (at > 0 && points[at - 1] > point) {
                at--;
            }
            if (at > 0 && points[at - 1] == point || count >= MOST) {
                return;
            }
            for (int i = count; i > at; i--) {
                points[i] = points[i - 1];
            }
            points[at] = point;
            count++;
        }
    }

    /** A raster of 61 to 61 points: those with whole x and y, or the middles of the cells. */
    private static final class Picture {
        /** More than the steps of any way that does not cross itself, so bends outweigh steps. */
        static final int BEND = 4096;
        private static final int LINE = SIDE + 1;
        private static final int POINTS = LINE * LINE;
        private static final int FAR = 1 << 30;
        private static final int TAKEN = -1;

        private final int[] marks = new int[POINTS];
        private final int[] across = new int[POINTS];
        private final int[] up = new int[POINTS];
        private final int[] rowNews = new int[LINE];
        private final int[] columnNews = new int[LINE];
        /** All 0 between the lines. */
        private final int[] flips = new int[LINE];
        private int waiting;

        void clear() {
            Arrays.fill(marks, 0);
        }

        /** Marks what a shape holds; odd is 1 for the middles of cells, 0 for whole points. */
        void stamp(Shape s, int odd, int mark) {
            for (int y = Math.max(s.lower, 0); y < s.upper; y++) {
                stampLine(s, y, odd, mark);
            }
        }

        void stampLine(Shape s, int y, int odd, int mark) {
            if (y < s.lower || y >= s.upper || y < 0 || y >= LINE) {
                return;
            }
            for (int k = 0; k < s.count; k++) {
                flipAlong(s.parts[k], 2 * y + odd, odd, 1 << k);
            }
            int set = 0;
            for (int x = Math.min(s.right, SIDE); x >= 0 && x >= s.left - 1; x--) {
                set ^= flips[x];
                flips[x] = 0;
                if (s.hasSet(set)) {
                    marks[y * LINE + x] = mark;
                }
            }
        }

        /** An edge that is crossed counts for all points to its left: it flips the last one of them. */
        private void flipAlong(Polygon p, int doubledY, int odd, int bit) {
            for (int i = 0; i < p.count; i++) {
                if (p.isCut(i, doubledY)) {
                    int last = Math.floorDiv(p.quartersAt(i, doubledY) - 2 * odd - 1, 4);
                    if (last >= 0 && last < LINE) {
                        flips[last] ^= bit;
                    }
                }
            }
        }

        int weightedLine(int y) {
            int sum = 0;
            for (int x = 0; x < SIDE; x++) {
                sum += (x + 1) * marks[y * LINE + x];
            }
            return sum;
        }

        int sizeOfField(int x, int y) {
            int colour = marks[y * LINE + x];
            waiting = 0;
            takeCell(x, y, colour);
            for (int next = 0; next < waiting && next < POINTS; next++) {
                int atX = across[next] % LINE;
                int atY = across[next] / LINE;
                takeCell(atX - 1, atY, colour);
                takeCell(atX + 1, atY, colour);
                takeCell(atX, atY - 1, colour);
                takeCell(atX, atY + 1, colour);
            }
            return waiting;
        }

        private void takeCell(int x, int y, int colour) {
            if (x < 0 || x >= SIDE || y < 0 || y >= SIDE || waiting < 0 || waiting >= POINTS) {
                return;
            }
            int at = y * LINE + x;
            if (marks[at] == colour) {
                marks[at] = TAKEN;
                across[waiting] = at;
                waiting++;
            }
        }

        /**
         * The least bends times BEND, and steps, of a way over points without marks; NONE without one.
         * Points are reached by lines across and by lines up; each round adds the lines that begin with
         * one more bend, so the first round that comes to the end has the fewest bends.
         */
        int cheapestWay(int fromX, int fromY, int toX, int toY) {
            if (!isOnBoard(fromX) || !isOnBoard(fromY) || !isOnBoard(toX) || !isOnBoard(toY)) {
                return NONE;
            }
            int start = fromY * LINE + fromX;
            int end = toY * LINE + toX;
            if (marks[start] != 0 || marks[end] != 0) {
                return NONE;
            }
            if (start == end) {
                return 0;
            }
            begin(start, fromX, fromY);
            for (int bends = 0; bends < 2 * POINTS; bends++) {
                boolean isNew = extendAll(bends);
                int best = Math.min(across[end], up[end]);
                if (best < FAR) {
                    return best;
                }
                if (!isNew) {
                    return NONE;
                }
            }
            return NONE;
        }

        /** The first line begins with no bend, so the start counts as if one bend were not made yet. */
        private void begin(int start, int x, int y) {
            Arrays.fill(across, FAR);
            Arrays.fill(up, FAR);
            Arrays.fill(rowNews, -2);
            Arrays.fill(columnNews, -2);
            across[start] = -BEND;
            up[start] = -BEND;
            rowNews[y] = -1;
            columnNews[x] = -1;
        }

        private boolean extendAll(int bends) {
            boolean isNew = false;
            for (int i = 0; i < LINE; i++) {
                if (rowNews[i] >= bends - 1 && extendAlong(up, across, i * LINE, 1, bends, columnNews)) {
                    isNew = true;
                }
            }
            for (int i = 0; i < LINE; i++) {
                if (columnNews[i] >= bends - 1 && extendAlong(across, up, i, LINE, bends, rowNews)) {
                    isNew = true;
                }
            }
            return isNew;
        }

        /** Goes along one line there and back again; only points reached with one bend less begin lines. */
        private boolean extendAlong(int[] from, int[] to, int first, int step, int bends, int[] news) {
            boolean isNew = false;
            int carried = FAR;
            for (int k = 0; k < 2 * LINE; k++) {
                int i = k < LINE ? k : 2 * LINE - 1 - k;
                int at = first + i * step;
                if (k == LINE || marks[at] != 0) {
                    carried = FAR;
                }
                if (carried < FAR) {
                    carried++;
                }
                if (carried < to[at]) {
                    to[at] = carried;
                    news[i] = bends;
                    isNew = true;
                }
                if (Math.floorDiv(from[at], BEND) == bends - 1) {
                    carried = Math.min(carried, from[at] + BEND);
                }
            }
            return isNew;
        }
    }

    /** A row of signs: the tape, or the out. */
    private static final class Text {
        static final int TAPE = 80;
        /** As much as four polygons with eight corners of two digits each can need. */
        static final int SHEET = MOST_POLYGONS * (MOST_CORNERS * 7 + 1);
        private static final int CLOSED = 0;
        private static final int BEFORE_X = 1;
        private static final int IN_X = 2;
        private static final int BEFORE_Y = 3;
        private static final int IN_Y = 4;

        int count;
        final int[] signs;

        Text(int most) {
            signs = new int[most > 0 ? most : 0];
        }

        void clear() {
            count = 0;
        }

        void put(int sign) {
            if (count >= 0 && count < signs.length) {
                signs[count] = sign;
                count++;
            }
        }

        private void putNumber(int number) {
            if (number > 9) {
                put('0' + number / 10);
            }
            put('0' + number % 10);
        }

        void putCorners(Polygon p) {
            for (int i = 0; i < p.count; i++) {
                put('(');
                putNumber(p.xs[i]);
                put(',');
                putNumber(p.ys[i]);
                put(')');
            }
        }

        /** Reads the signs as corners; answers their fault, NONE without one. */
        int readCorners(Polygon into) {
            into.clear();
            int state = CLOSED;
            int number = 0;
            int x = 0;
            for (int i = 0; i < count; i++) {
                int sign = signs[i];
                boolean isDigit = sign >= '0' && sign <= '9';
                if (state == CLOSED && sign == '(' && into.count < MOST_CORNERS) {
                    state = BEFORE_X;
                } else if ((state == BEFORE_X || state == BEFORE_Y) && isDigit) {
                    number = sign - '0';
                    state = state == BEFORE_X ? IN_X : IN_Y;
                } else if ((state == IN_X || state == IN_Y) && isDigit && canGrow(number, sign - '0')) {
                    number = 10 * number + sign - '0';
                } else if (state == IN_X && sign == ',') {
                    x = number;
                    state = BEFORE_Y;
                } else if (state == IN_Y && sign == ')') {
                    into.add(x, number);
                    state = CLOSED;
                } else {
                    return i;
                }
            }
            return state == CLOSED && into.count >= 3 ? NONE : count;
        }

        private static boolean canGrow(int number, int digit) {
            return number > 0 && 10 * number + digit <= SIDE;
        }
    }

    /** Draws lots from a seed. */
    private static final class Lots {
        static final int GREATEST_SEED = 65535;

        int seed;

        int next(int n) {
            seed = (25173 * seed + 13849) % (GREATEST_SEED + 1);
            return n > 0 ? seed / 16 % n : 0;
        }
    }
}
