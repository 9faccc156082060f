/** Promises 1 to 27: what each call does and answers, beside what "Terms" tells of it. */
final class ChangeSentences {
    private static final int NONE = Layerboard.NONE;

    static void tell(Doc d) {
        tellDrawing(d);
        tellChanging(d);
        tellTying(d);
        tellGathering(d);
    }

    private static void tellDrawing(Doc d) {
        d.in("A new object");
        d.test(ChangeSentences::emptyBoard, "An empty board.");
        d.in("pen");
        d.test(ChangeSentences::penPuts, "Puts a point behind", "Returns how many it has then.");
        d.refusals("pen", Due.ARGUMENT, Due.STATE);
        d.in("lift");
        d.test(ChangeSentences::liftTakes, "Takes all points", "returns how many it had.");
        d.in("draw");
        d.test(ChangeSentences::drawsThePen, "Draws a shape of one polygon", "Returns its number.");
        d.refusals("draw", Due.INDEX, Due.ARGUMENT, Due.STATE);
        d.in("trace");
        d.test(ChangeSentences::tracesTheTape, "Draws a shape of one polygon", "Returns its number.");
        d.refusals("trace", Due.INDEX, Due.ARGUMENT, Due.STATE);
        d.in("box");
        d.test(ChangeSentences::drawsABox, "Draws a box", "Returns its number.");
        d.refusals("box", Due.INDEX, Due.ARGUMENT, Due.STATE);
        d.in("diamond");
        d.test(ChangeSentences::drawsADiamond, "Draws a diamond", "Returns its number.");
        d.refusals("diamond", Due.INDEX, Due.ARGUMENT, Due.STATE);
        d.in("sample");
        d.test(ChangeSentences::samplesOneByOne, "Draws shapes by lots", "Returns the number of the last one.");
        d.test(ChangeSentences::samplesInOrder, "Of each, in this order", "a lot of 4, the layer", "a lot of 9 and 1",
                "a lot of 40, x", "a lot of 40, y", "a lot of 10 and 1");
        d.test(ChangeSentences::samplesOfAllKinds, "The kind 0", "1: a box", "2: a diamond", "3: a polygon");
        d.test(ChangeSentences::seeds, "`seed`");
        d.test(ChangeSentences::many, "`many`");
        d.test(ChangeSentences::notSoMany, "Throws `IllegalStateException`");
        d.refusals("sample", Due.INDEX, Due.ARGUMENT, Due.STATE);
        d.in("erase");
        d.test(ChangeSentences::erases, "Erases a shape.", "Returns how many shapes followed it.");
        d.refusals("erase", Due.INDEX, Due.STATE);
    }

    private static void tellChanging(Doc d) {
        d.in("move");
        d.test(ChangeSentences::moves, "Moves a shape, or what goes", "`alone`", "Returns how many shapes have come");
        d.test(ChangeSentences::dx, "`dx`");
        d.test(ChangeSentences::dy, "`dy`");
        d.refusals("move", Due.INDEX, Due.ARGUMENT, Due.STATE);
        d.in("turn");
        d.test(ChangeSentences::turns, "Turns a shape by quarters", "its frame has the same left", "Returns the right");
        d.test(ChangeSentences::turnsAlone, "Nothing follows.");
        d.test(() -> Clauses.holdArgument("turn", 2), "`quarters`");
        d.test(ChangeSentences::turnsByQuarters, "Throws `IllegalStateException`");
        d.refusals("turn", Due.INDEX, Due.ARGUMENT, Due.STATE);
        d.in("mirror");
        d.test(ChangeSentences::mirrors, "Mirrors a shape", "`upright`", "Returns how many corners");
        d.test(ChangeSentences::mirrorsAlone, "Nothing follows.");
        d.refusals("mirror", Due.INDEX, Due.STATE);
        d.in("grow");
        d.test(ChangeSentences::grows, "Makes a shape so many times", "its frame has the same left", "Returns the right");
        d.test(() -> Clauses.holdArgument("grow", 2), "`times`");
        d.test(ChangeSentences::growsAlone, "Nothing follows.");
        d.test(ChangeSentences::growsToTheEdge, "Throws `IllegalStateException`");
        d.refusals("grow", Due.INDEX, Due.ARGUMENT, Due.STATE);
        d.in("paint");
        d.test(ChangeSentences::paints, "Gives a shape another colour.", "Returns the colour before.");
        d.refusals("paint", Due.INDEX, Due.ARGUMENT, Due.STATE);
        d.in("raise");
        d.test(ChangeSentences::raises, "Puts a shape elsewhere", "Returns how many shapes of the layer");
        d.test(() -> Clauses.holdArgument("raise", 2), "`how`");
        d.refusals("raise", Due.INDEX, Due.ARGUMENT, Due.STATE);
        d.in("toLayer");
        d.test(ChangeSentences::putsIntoLayers, "Puts a shape into a layer", "Returns the layer before.");
        d.refusals("toLayer", Due.INDEX, Due.STATE);
        d.in("show");
        d.test(ChangeSentences::shows, "Makes a layer visible or not.", "Returns how many shapes it has.");
        d.refusals("show", Due.INDEX, Due.STATE);
    }

    private static void tellTying(Doc d) {
        d.in("tie");
        d.test(ChangeSentences::ties, "Lets a shape follow", "Returns how many shapes the leader");
        d.test(() -> Clauses.holdArgument("tie", 3), "`kind`");
        d.refusals("tie", Due.INDEX, Due.ARGUMENT, Due.STATE);
        d.in("untie");
        d.test(ChangeSentences::unties, "Lets a shape follow none.", "Returns its leader before.");
        d.refusals("untie", Due.INDEX, Due.STATE);
        d.in("ring");
        d.test(ChangeSentences::tellsRings, "Tells the ring", "from 0 on", "Returns as told");
        d.test(ChangeSentences::countsRings, "`place`");
        d.test(ChangeSentences::leadersOfNowCount, "the leaders that it has by now");
        d.test(ChangeSentences::bothTheSame, "1 for how many");
        d.test(ChangeSentences::placesOfRings, "or no such place (but NONE)");
        d.refusals("ring", Due.INDEX);
        d.in("undo");
        d.test(ChangeSentences::takesBackTheLatest, "Takes back the latest", "Returns its number.");
        d.test(ChangeSentences::undoIsNoChange, "(This is no change itself.)");
        d.refusals("undo", Due.INDEX, Due.STATE);
    }

    private static void tellGathering(Doc d) {
        d.in("gather");
        d.test(ChangeSentences::gathers, "Gathers shapes into a group.", "Returns its number.");
        d.test(() -> Clauses.holdArgument("gather", 1), "`shapes`: a set");
        d.refusals("gather", Due.INDEX, Due.STATE);
        d.in("scatter");
        d.test(ChangeSentences::scatters, "Scatters the outermost group");
        d.test(ChangeSentences::countsMembers, "Returns how many members it had");
        d.refusals("scatter", Due.INDEX, Due.STATE);
        d.in("spread");
        d.test(ChangeSentences::spreads, "Spreads what goes together", "Returns how many shapes have moved.");
        d.refusals("spread", Due.INDEX, Due.STATE);
        d.in("guide");
        d.test(ChangeSentences::putsUpGuides, "Puts up a guide.", "Returns how many there are then.");
        d.test(() -> Clauses.holdArgument("guide", 2), "`at`");
        d.refusals("guide", Due.INDEX, Due.ARGUMENT, Due.STATE);
        d.in("snap");
        d.test(ChangeSentences::snaps, "Snaps what goes together", "Returns by how much it has moved");
        d.refusals("snap", Due.INDEX, Due.STATE);
        d.in("join");
        d.test(ChangeSentences::joins, "Makes a shape of two others", "it comes into the layer", "Returns its number.");
        d.test(ChangeSentences::joinsByFourLaws, "`how`");
        d.refusals("join", Due.INDEX, Due.ARGUMENT, Due.STATE);
    }

    private static void placeIs(String what, Layerboard b, int shape, int left, int lower) {
        Due.is(what + ", left of " + shape, b.of(shape, 10), left);
        Due.is(what + ", lower of " + shape, b.of(shape, 11), lower);
    }

    // ---- drawing

    private static void emptyBoard() {
        Layerboard used = new Layerboard();
        used.sample(0, 1, 6);
        used.pen(1, 1);
        used.type('(');
        used.paper(0);
        used.guide(0, true, 1);
        used.show(0, 3, false);
        Layerboard b = new Layerboard();
        Due.is("no shapes", b.shapes(), 0);
        Due.fails("no place in the order", Due.INDEX, () -> b.shapeAt(0));
        Due.is("no changes", b.changes(), 0);
        Due.fails("none stands", Due.INDEX, () -> b.stands(0));
        for (int hand = 0; hand < 3; hand++) {
            int h = hand;
            Due.fails("none to take back", Due.STATE, () -> b.undo(h));
        }
        Due.is("no points", b.lift(), 0);
        Due.is("no signs", b.wipe(), 0);
        Due.fails("no out", Due.INDEX, () -> b.out(0));
        Due.is("nothing to hit", b.hit(0, 0), NONE);
        Due.is("nothing to catch", b.caught(0, 0, 60, 60, true), 0);
        Due.is("no colour", b.cell(0, 0), 0);
        Due.is("sound", b.isSound(), true);
        Due.is("no guides", b.guide(0, true, 1), 1);
        Due.is("the first number", b.box(0, 3, 1, 0, 0, 1, 1), 1);
        Due.is("visible", b.hit(0, 0), 1);
    }

    private static void penPuts() {
        Layerboard b = new Layerboard();
        int[] xy = {0, 0, 60, 0, 60, 60};
        for (int i = 0; i < 3; i++) {
            Due.is("how many", b.pen(xy[2 * i], xy[2 * i + 1]), i + 1);
        }
        b.draw(0, 0, 1);
        Due.paperIs("in their order", b, 0, "(0,0)(60,0)(60,60)");
        Due.is("none was left", b.pen(5, 5), 1);
        Due.is("the same point again", b.pen(5, 5), 2);
    }

    private static void liftTakes() {
        Layerboard b = new Layerboard();
        Due.is("none", b.lift(), 0);
        for (int i = 0; i < 8; i++) {
            b.pen(i, i);
        }
        Due.is("eight", b.lift(), 8);
        Due.is("none then", b.lift(), 0);
        Due.draws(b, 0, 0, 4, 0, 4, 4);
        Due.paperIs("none of those is drawn", b, 0, "(0,0)(4,0)(4,4)");
        Due.is("no change", b.changes(), 1);
    }

    private static void shapeIs(Layerboard b, int shape, int hand, int layer, int colour, String paper) {
        Due.is("hand", b.of(shape, 9), hand);
        Due.is("layer", b.of(shape, 0), layer);
        Due.is("colour", b.of(shape, 1), colour);
        Due.is("polygons", b.of(shape, 5), 1);
        Due.is("table", b.of(shape, 6), 2);
        Due.is("no leader", b.of(shape, 2), NONE);
        Due.is("no group", b.of(shape, 4), NONE);
        Due.paperIs("corners", b, shape, paper);
    }

    private static void drawsThePen() {
        Layerboard b = new Layerboard();
        b.show(0, 0, true);
        Due.pens(b, 1, 1, 9, 1, 9, 9, 5, 9, 1, 5);
        Due.is("number", b.draw(2, 3, 9), 1);
        shapeIs(b, 1, 2, 3, 9, "(1,1)(9,1)(9,9)(5,9)(1,5)");
        Due.fails("the pen has none then", Due.STATE, () -> b.draw(0, 0, 1));
        Due.is("the pen begins anew", b.pen(1, 1), 1);
        b.pen(9, 2);
        b.pen(3, 3);
        Due.fails("no edge", Due.STATE, () -> b.draw(0, 0, 1));
        Due.is("a call that throws leaves the pen", b.lift(), 3);
    }

    private static void tracesTheTape() {
        Layerboard b = new Layerboard();
        b.show(0, 0, true);
        b.pen(3, 3);
        Due.types(b, "(0,0)(60,0)(60,60)(0,60)(10,40)(20,20)");
        Due.is("number", b.trace(1, 2, 8), 1);
        shapeIs(b, 1, 1, 2, 8, "(0,0)(60,0)(60,60)(0,60)(10,40)(20,20)");
        Due.is("the tape stays", b.wipe(), 38);
        Due.is("the pen stays", b.lift(), 1);
    }

    private static void drawsABox() {
        Layerboard b = new Layerboard();
        b.pen(3, 3);
        Due.is("number", b.box(2, 1, 7, 5, 9, 20, 30), 0);
        shapeIs(b, 0, 2, 1, 7, "(5,9)(25,9)(25,39)(5,39)");
        Due.is("number", b.box(0, 0, 1, 59, 0, 1, 60), 1);
        shapeIs(b, 1, 0, 0, 1, "(59,0)(60,0)(60,60)(59,60)");
        Due.is("the pen stays", b.lift(), 1);
    }

    private static void drawsADiamond() {
        Layerboard b = new Layerboard();
        Due.is("number", b.diamond(1, 2, 3, 20, 31, 9), 0);
        shapeIs(b, 0, 1, 2, 3, "(11,31)(20,22)(29,31)(20,40)");
        Due.is("number", b.diamond(0, 0, 1, 59, 1, 1), 1);
        shapeIs(b, 1, 0, 0, 1, "(58,1)(59,0)(60,1)(59,2)");
    }

    private static void samplesOneByOne() {
        Layerboard b = new Layerboard();
        Due.is("the last one of 6", b.sample(2, 77, 6), 5);
        Due.is("6 changes", b.changes(), 6);
        Due.is("6 shapes", b.shapes(), 0b111111);
        Due.is("the last one of 1", b.sample(0, 77, 1), 6);
        Due.paperIs("from the same seed", b, 6, Due.paper(b, 0));
        for (int i = 0; i < 6; i++) {
            Due.is("hand", b.of(i, 9), 2);
        }
        Due.is("taken back by itself", b.undo(2), 5);
        Due.is("the others stay", b.shapes(), 0b1011111);
    }

    /** The lots of a seed, told as the document does. */
    private static int[] lotsOf(int seed) {
        int[] lots = new int[6];
        long s = seed;
        for (int i = 0; i < 6; i++) {
            s = (25173 * s + 13849) % 65536;
            lots[i] = (int) (s / 16);
        }
        return lots;
    }

    private static void samplesInOrder() {
        for (int seed = 0; seed < 65536; seed += 1021) {
            int[] lots = lotsOf(seed);
            Layerboard b = new Layerboard();
            b.sample(0, seed, 1);
            Due.is("layer", b.of(0, 0), lots[1] % 4);
            Due.is("colour", b.of(0, 1), lots[2] % 9 + 1);
            Due.is("left", b.of(0, 10), lots[3] % 40);
            Due.is("lower", b.of(0, 11), lots[4] % 40);
            int n = lots[5] % 10 + 1;
            Due.is("right", b.of(0, 12), lots[3] % 40 + (lots[0] % 4 == 1 ? n : 2 * n));
            Due.is("upper", b.of(0, 13), lots[4] % 40 + (lots[0] % 4 == 0 || lots[0] % 4 == 3 ? n : 2 * n));
        }
    }

    private static String cornersOf(int kind, int x, int y, int n) {
        int[][] all = {{x, y, x + 2 * n, y, x + 2 * n, y + n, x, y + n}, {x, y, x + n, y, x + n, y + 2 * n, x, y + 2 * n},
            {x, y + n, x + n, y, x + 2 * n, y + n, x + n, y + 2 * n}, {x, y, x + 2 * n, y, x, y + n}};
        StringBuilder t = new StringBuilder();
        for (int i = 0; i < all[kind].length; i += 2) {
            t.append("(" + all[kind][i] + "," + all[kind][i + 1] + ")");
        }
        return t.toString();
    }

    private static void samplesOfAllKinds() {
        int kinds = 0;
        for (int seed = 0; seed < 40; seed++) {
            int[] lots = lotsOf(seed);
            kinds |= 1 << lots[0] % 4;
            Layerboard b = new Layerboard();
            b.sample(0, seed, 1);
            Due.paperIs("seed " + seed, b, 0, cornersOf(lots[0] % 4, lots[3] % 40, lots[4] % 40, lots[5] % 10 + 1));
        }
        Due.is("all four kinds", kinds, 15);
    }

    private static void seeds() {
        Layerboard b = new Layerboard();
        Due.fails("seed -1", Due.ARGUMENT, () -> b.sample(0, -1, 1));
        Due.fails("seed 65536", Due.ARGUMENT, () -> b.sample(0, 65536, 1));
        Due.is("seed 0", b.sample(0, 0, 1), 0);
        Due.is("seed 65535", b.sample(0, 65535, 1), 1);
    }

    private static void many() {
        for (int many = 0; many <= 7; many++) {
            int m = many;
            Layerboard b = new Layerboard();
            if (many >= 1 && many <= 6) {
                Due.is("many " + many, b.sample(0, 5, many), many - 1);
            } else {
                Due.fails("many " + many, Due.ARGUMENT, () -> b.sample(0, 5, m));
            }
            Due.is("changes", b.changes(), many % 7);
        }
    }

    private static void notSoMany() {
        for (int many = 1; many <= 6; many++) {
            int m = many;
            Layerboard just = Due.fillTo(new Layerboard(), 60 - many);
            Due.is("just so many can be made", just.sample(0, 5, many), 59);
            Layerboard less = Due.fillTo(new Layerboard(), 61 - many);
            Due.fails("one less", Due.STATE, () -> less.sample(0, 5, m));
            Due.is("none of them is made", less.shapes(), 0);
        }
    }

    private static void erases() {
        Layerboard b = new Layerboard();
        for (int i = 0; i < 5; i++) {
            b.box(0, i % 4, 1, 8 * i, 0, 4, 4);
        }
        b.tie(0, 1, 0, 0);
        b.tie(0, 2, 0, 1);
        b.tie(0, 3, 1, 2);
        Due.is("two followed it, one of those one more", b.erase(1, 0), 2);
        Due.is("shapes", b.shapes(), 0b11110);
        Due.is("one", b.erase(1, 1), 1);
        Due.is("none", b.erase(1, 4), 0);
        Due.is("shapes", b.shapes(), 0b01100);
        Due.is("nothing there", b.hit(2, 2), NONE);
        Due.is("undo of that", b.undo(1), 10);
        Due.is("it is there again", b.shapes(), 0b11100);
    }

    // ---- moving and changing

    private static void moves() {
        Layerboard b = new Layerboard();
        b.box(0, 0, 1, 10, 10, 4, 4);
        b.box(0, 1, 1, 20, 10, 4, 4);
        b.box(0, 2, 1, 30, 10, 4, 4);
        b.gather(0, 0b011);
        b.tie(0, 2, 1, 0);
        Due.is("alone", b.move(1, 0, 3, -4, true), 1);
        placeIs("alone", b, 0, 13, 6);
        Due.paperIs("all its corners", b, 0, "(13,6)(17,6)(17,10)(13,10)");
        placeIs("the other one of its group", b, 1, 20, 10);
        Due.is("what goes together, and what follows", b.move(1, 0, -1, 2, false), 3);
        placeIs("together", b, 0, 12, 8);
        placeIs("together", b, 1, 19, 12);
        placeIs("what follows", b, 2, 29, 12);
        Due.paperIs("all its corners", b, 2, "(29,12)(33,12)(33,16)(29,16)");
        Due.is("alone, and what follows", b.move(1, 1, 1, 0, true), 2);
        Due.is("by nothing none comes elsewhere", b.move(1, 0, 0, 0, false), 0);
        Due.is("it is a change", b.undo(1), 8);
    }

    private static void dx() {
        Layerboard b = new Layerboard();
        Due.draws(b, 0, 0, 0, 60, 0, 30);
        Due.is("60 to the right", b.move(0, 0, 60, 0, true), 1);
        placeIs("60 to the right", b, 0, 60, 0);
        Due.is("60 to the left", b.move(0, 0, -60, 0, true), 1);
        placeIs("60 to the left", b, 0, 0, 0);
        Due.fails("61", Due.ARGUMENT, () -> b.move(0, 0, 61, 0, true));
        Due.fails("-61", Due.ARGUMENT, () -> b.move(0, 0, -61, 0, true));
    }

    private static void dy() {
        Layerboard b = new Layerboard();
        Due.draws(b, 0, 0, 60, 0, 30, 0);
        Due.is("60 up", b.move(0, 0, 0, 60, true), 1);
        placeIs("60 up", b, 0, 0, 60);
        Due.is("60 down", b.move(0, 0, 0, -60, true), 1);
        placeIs("60 down", b, 0, 0, 0);
        Due.fails("61", Due.ARGUMENT, () -> b.move(0, 0, 0, 61, true));
        Due.fails("-61", Due.ARGUMENT, () -> b.move(0, 0, 0, -61, true));
    }

    private static void turns() {
        String[] due = {"(10,20)(18,20)(10,24)", "(14,20)(14,28)(10,20)", "(18,24)(10,24)(18,20)", "(10,28)(10,20)(14,28)"};
        int[] right = {18, 14, 18, 14};
        for (int quarters = 1; quarters <= 3; quarters++) {
            Layerboard b = new Layerboard();
            Due.draws(b, 10, 20, 18, 20, 10, 24);
            Due.is("the right", b.turn(0, 0, quarters), right[quarters]);
            Due.paperIs("turned", b, 0, due[quarters]);
            placeIs("the same left and lower side", b, 0, 10, 20);
            Due.is("the right, as it is told", b.of(0, 12), right[quarters]);
            Due.is("back again", b.turn(0, 0, 4 - quarters), 18);
            Due.paperIs("back again", b, 0, due[0]);
        }
        Layerboard b = new Layerboard();
        b.box(0, 0, 1, 10, 10, 2, 2);
        b.box(0, 0, 1, 10, 18, 2, 2);
        b.join(0, 0, 0, 1);
        Due.is("all polygons, around one frame", b.turn(0, 2, 1), 20);
        Due.paperIs("all polygons", b, 2, "(20,10)(20,12)(18,12)(18,10);(12,10)(12,12)(10,12)(10,10)");
    }

    private static void turnsAlone() {
        Layerboard b = new Layerboard();
        b.box(0, 0, 1, 10, 10, 2, 8);
        b.box(0, 0, 1, 30, 30, 2, 8);
        b.tie(0, 1, 0, 0);
        b.gather(0, 0b11);
        b.turn(0, 0, 1);
        Due.paperIs("neither what follows nor what goes together", b, 1, "(30,30)(32,30)(32,38)(30,38)");
        Due.paperIs("it alone", b, 0, "(18,10)(18,12)(10,12)(10,10)");
    }

    /** Behind all quarters: half round always fits; what would leave the board at one quarter only does not count. */
    private static void turnsByQuarters() {
        for (int quarters = 1; quarters <= 3; quarters++) {
            int q = quarters;
            Layerboard b = new Layerboard();
            b.box(0, 0, 1, 51, 0, 9, 10);
            b.box(0, 0, 1, 0, 51, 10, 9);
            b.box(0, 0, 1, 50, 50, 10, 10);
            if (quarters == 2) {
                Due.is("half round at the right edge", b.turn(0, 0, 2), 60);
                Due.is("half round at the upper edge", b.turn(0, 1, 2), 10);
            } else {
                Due.fails("over the right edge by 1", Due.STATE, () -> b.turn(0, 0, q));
                Due.fails("over the upper edge by 1", Due.STATE, () -> b.turn(0, 1, q));
            }
            Due.is("just to both edges", b.turn(0, 2, quarters), 60);
        }
        Layerboard b = new Layerboard();
        b.box(0, 0, 1, 0, 0, 1, 1);
        Due.fails("0", Due.ARGUMENT, () -> b.turn(0, 0, 0));
        Due.fails("4", Due.ARGUMENT, () -> b.turn(0, 0, 4));
    }

    private static void mirrors() {
        Layerboard b = new Layerboard();
        Due.draws(b, 10, 20, 18, 20, 10, 24);
        Due.is("three corners", b.mirror(0, 0, true), 3);
        Due.paperIs("left and right change sides", b, 0, "(18,20)(10,20)(18,24)");
        Due.is("three corners", b.mirror(0, 0, false), 3);
        Due.paperIs("lower and upper side do", b, 0, "(18,24)(10,24)(18,20)");
        b.box(0, 0, 1, 0, 0, 4, 6);
        b.join(0, 2, 3, 0);
        b.join(0, 2, 4, 4);
        Due.is("corners of all its polygons", b.mirror(0, 5, true), 14);
        Due.paperIs("within the frame of all", b, 5,
                "(18,0)(14,0)(14,6)(18,6);(0,24)(8,24)(0,20);(18,0)(14,0)(14,6)(18,6);(0,24)(8,24)(0,20)");
        Due.draws(b, 0, 60, 60, 60, 30, 60);
        Due.is("a flat one at the edge", b.mirror(0, 7, false), 3);
        placeIs("a flat one at the edge", b, 7, 0, 60);
    }

    private static void mirrorsAlone() {
        Layerboard b = new Layerboard();
        Due.draws(b, 10, 10, 20, 10, 10, 20);
        Due.draws(b, 30, 10, 40, 10, 30, 20);
        b.tie(0, 1, 0, 0);
        b.gather(0, 0b11);
        b.mirror(0, 0, true);
        b.mirror(0, 0, false);
        Due.paperIs("it alone", b, 0, "(20,20)(10,20)(20,10)");
        Due.paperIs("neither what follows nor what goes together", b, 1, "(30,10)(40,10)(30,20)");
    }

    private static void grows() {
        for (int times = 2; times <= 4; times++) {
            Layerboard b = new Layerboard();
            Due.draws(b, 5, 7, 9, 7, 9, 15, 7, 11);
            Due.is("the right", b.grow(0, 0, times), 5 + 4 * times);
            placeIs("the same left and lower side", b, 0, 5, 7);
            Due.is("upper", b.of(0, 13), 7 + 8 * times);
            Due.is("a corner between, x", b.corner(0, 0, 3, false), 5 + 2 * times);
            Due.is("a corner between, y", b.corner(0, 0, 3, true), 7 + 4 * times);
        }
        Layerboard b = new Layerboard();
        b.box(0, 0, 1, 10, 10, 2, 2);
        b.box(0, 0, 1, 14, 16, 2, 2);
        b.join(0, 0, 0, 1);
        b.grow(0, 2, 3);
        Due.paperIs("all polygons", b, 2, "(10,10)(16,10)(16,16)(10,16);(22,28)(28,28)(28,34)(22,34)");
        Due.fails("once", Due.ARGUMENT, () -> b.grow(0, 0, 1));
        Due.fails("5 times", Due.ARGUMENT, () -> b.grow(0, 0, 5));
    }

    private static void growsAlone() {
        Layerboard b = new Layerboard();
        b.box(0, 0, 1, 10, 10, 2, 8);
        b.box(0, 0, 1, 30, 30, 2, 8);
        b.tie(0, 1, 0, 0);
        b.gather(0, 0b11);
        b.grow(0, 0, 2);
        Due.paperIs("it alone", b, 0, "(10,10)(14,10)(14,26)(10,26)");
        Due.paperIs("neither what follows nor what goes together", b, 1, "(30,30)(32,30)(32,38)(30,38)");
    }

    private static void growsToTheEdge() {
        for (int times = 2; times <= 4; times++) {
            int t = times;
            Layerboard b = new Layerboard();
            b.box(0, 0, 1, 60 - 5 * times, 0, 5, 1);
            b.box(0, 0, 1, 0, 60 - 5 * times, 1, 5);
            b.box(0, 0, 1, 61 - 5 * times, 0, 5, 1);
            b.box(0, 0, 1, 0, 61 - 5 * times, 1, 5);
            Due.is("just to the right edge", b.grow(0, 0, times), 60);
            Due.is("just to the upper edge", b.grow(0, 1, times), times);
            Due.fails("over the right edge by 1", Due.STATE, () -> b.grow(0, 2, t));
            Due.fails("over the upper edge by 1", Due.STATE, () -> b.grow(0, 3, t));
        }
    }

    private static void paints() {
        Layerboard b = new Layerboard();
        b.box(0, 0, 4, 0, 0, 4, 4);
        b.box(0, 0, 4, 10, 0, 4, 4);
        b.tie(0, 1, 0, 0);
        b.gather(0, 0b11);
        Due.is("the colour before", b.paint(1, 0, 9), 4);
        Due.is("another one", b.of(0, 1), 9);
        Due.is("in the picture", b.cell(0, 0), 9);
        Due.is("it alone", b.of(1, 1), 4);
        Due.is("the same one", b.paint(1, 0, 9), 9);
        Due.is("undo", b.undo(1), 5);
        Due.is("the one of the change ahead", b.of(0, 1), 9);
        b.undo(1);
        Due.is("the first one", b.of(0, 1), 4);
    }

    private static void raises() {
        int[][] below = {{1, 0, 3, 0}, {2, 0, 3, 0}, {3, 1, 3, 0}, {3, 2, 3, 0}};
        for (int place = 0; place < 4; place++) {
            for (int how = 0; how < 4; how++) {
                Layerboard b = new Layerboard();
                b.box(0, 0, 1, 0, 0, 1, 1);
                for (int i = 0; i < 4; i++) {
                    b.box(0, 1, 1, 0, 0, 1, 1);
                }
                b.box(0, 2, 1, 0, 0, 1, 1);
                Due.is("how many are below it", b.raise(0, 1 + place, how), below[place][how]);
                Due.is("its place among all", b.shapeAt(1 + below[place][how]), 1 + place);
                Due.is("its layer", b.of(1 + place, 0), 1);
                Due.is("the others below", b.shapeAt(0), 0);
                Due.is("the others above", b.shapeAt(5), 5);
            }
        }
    }

    private static void putsIntoLayers() {
        Layerboard b = new Layerboard();
        b.box(0, 0, 1, 0, 0, 4, 4);
        b.box(0, 0, 2, 0, 0, 4, 4);
        b.box(0, 3, 3, 0, 0, 4, 4);
        Due.is("the layer before", b.toLayer(0, 0, 3), 0);
        Due.is("the layer", b.of(0, 0), 3);
        Due.is("at the top", b.hit(0, 0), 0);
        Due.is("the layer before", b.toLayer(0, 2, 3), 3);
        Due.is("its own, to the top", b.hit(0, 0), 2);
        Due.is("the key there", b.of(2, 7), 3);
        Due.is("the layer before", b.toLayer(0, 2, 3), 3);
        Due.is("the top of its own already: above the others", b.of(2, 7), 3);
        Due.is("the layer before", b.toLayer(0, 2, 0), 3);
        Due.is("above the one there", b.of(2, 7), 3);
        Due.is("at the top, beneath a layer above", b.hit(0, 0), 0);
    }

    private static void shows() {
        Layerboard b = new Layerboard();
        b.box(0, 2, 1, 0, 0, 4, 4);
        b.box(0, 2, 1, 0, 0, 4, 4);
        b.box(0, 1, 5, 0, 0, 4, 4);
        Due.is("how many it has", b.show(0, 2, false), 2);
        Due.is("not visible", b.hit(0, 0), 2);
        Due.is("again", b.show(0, 2, false), 2);
        Due.is("visible", b.show(0, 2, true), 2);
        Due.is("visible", b.hit(0, 0), 1);
        Due.is("one without shapes", b.show(0, 3, true), 0);
        b.erase(0, 0);
        Due.is("one is erased", b.show(0, 2, true), 1);
        b.toLayer(0, 2, 2);
        Due.is("one is put there", b.show(0, 2, true), 2);
        Due.is("and is gone from where it was", b.show(0, 1, true), 0);
    }

    // ---- ties, groups, guides

    private static Layerboard boxes(int many) {
        Layerboard b = new Layerboard();
        for (int i = 0; i < many; i++) {
            b.box(0, i % 4, 1, 6 * i, 6 * i, 4, 4);
        }
        return b;
    }

    private static void ties() {
        Layerboard b = boxes(5);
        Due.is("none over the leader", b.tie(0, 1, 0, 0), 0);
        Due.is("one over the leader", b.tie(0, 2, 1, 1), 1);
        Due.is("two over the leader", b.tie(0, 3, 2, 2), 2);
        Due.is("what follows the shape does not count", b.tie(0, 0, 4, 0), 0);
        Due.is("four over the leader", b.ring(4, 3, NONE), 5);
        Due.is("in place of the one that it follows", b.tie(0, 3, 0, 1), 1);
        Due.is("the leader", b.of(3, 2), 0);
        Due.is("the kind", b.of(3, 3), 1);
        Due.is("moves with the new one alone", b.move(0, 2, 1, 0, true), 1);
        for (int wrong : new int[] {-1, 3}) {
            Due.fails("kind " + wrong, Due.ARGUMENT, () -> b.tie(0, 3, 0, wrong));
        }
    }

    private static void unties() {
        Layerboard b = boxes(3);
        b.tie(0, 1, 0, 2);
        b.tie(0, 2, 1, 0);
        Due.is("its leader before", b.untie(1, 1), 0);
        Due.is("no leader", b.of(1, 2), NONE);
        Due.is("no kind", b.of(1, 3), NONE);
        Due.is("what follows it stays", b.of(2, 2), 1);
        Due.fails("it has none", Due.STATE, () -> b.untie(1, 1));
        Due.is("it does not move", b.move(0, 0, 1, 1, true), 1);
        Due.is("undo", b.undo(1), 5);
        Due.is("its leader again", b.of(1, 2), 0);
        Due.is("its kind again", b.of(1, 3), 2);
    }

    private static void tellsRings() {
        Layerboard b = boxes(5);
        b.tie(0, 1, 0, 0);
        b.tie(0, 3, 1, 0);
        int[] ring = {0, 3, 1};
        for (int place = 0; place < 3; place++) {
            Due.is("the shape, its leader to be, the leader of that", b.ring(0, 3, place), ring[place]);
        }
        Due.is("nothing is tied by that", b.of(0, 2), NONE);
        Due.is("nor is it a change", b.changes(), 7);
    }

    private static void countsRings() {
        Layerboard b = boxes(5);
        b.tie(0, 1, 0, 0);
        Due.is("two", b.ring(0, 1, NONE), 2);
        b.tie(0, 3, 1, 0);
        Due.is("three", b.ring(0, 3, NONE), 3);
        Due.is("none would be", b.ring(3, 0, NONE), 0);
        Due.is("none, by the tie that is there", b.ring(1, 0, NONE), 0);
        Due.is("none, of shapes without ties", b.ring(2, 4, NONE), 0);
    }

    private static void leadersOfNowCount() {
        Layerboard b = boxes(4);
        b.tie(0, 1, 0, 0);
        b.tie(0, 0, 3, 0);
        // 0 follows 3 by now: that is another tie than the one from 0 to 1
        Due.is("its own leader does not count", b.ring(0, 1, NONE), 2);
        Due.is("its leader to be", b.ring(0, 1, 1), 1);
        Due.is("by now there is a ring from 3 over 1 and 0", b.ring(3, 1, NONE), 3);
        b.untie(0, 1);
        Due.is("none any more", b.ring(3, 1, NONE), 0);
        Due.is("of two still", b.ring(3, 0, NONE), 2);
        b.erase(0, 0);
        Due.fails("none that is erased", Due.INDEX, () -> b.ring(3, 0, NONE));
    }

    private static void bothTheSame() {
        Layerboard b = boxes(3);
        b.tie(0, 1, 0, 0);
        for (int i = 0; i < 3; i++) {
            int shape = i;
            Due.is("how many", b.ring(i, i, NONE), 1);
            Due.is("it", b.ring(i, i, 0), i);
            Due.fails("no more", Due.INDEX, () -> b.ring(shape, shape, 1));
        }
    }

    /** A place below NONE is no place, no more than one behind the last one; without a ring there is none at all. */
    private static void placesOfRings() {
        Layerboard b = boxes(3);
        b.tie(0, 1, 0, 0);
        for (int place : new int[] {-2, -3, Integer.MIN_VALUE, 2, 3, Integer.MAX_VALUE}) {
            Due.fails("place " + place, Due.INDEX, () -> b.ring(0, 1, place));
            Due.fails("place " + place + " without a ring", Due.INDEX, () -> b.ring(2, 1, place));
        }
        Due.fails("place 0 without a ring", Due.INDEX, () -> b.ring(2, 1, 0));
        Due.fails("NONE without a shape", Due.INDEX, () -> b.ring(3, 1, NONE));
        Due.fails("NONE without a leader", Due.INDEX, () -> b.ring(1, 3, NONE));
        Due.is("NONE without a ring", b.ring(2, 1, NONE), 0);
        Due.is("the last one", b.ring(0, 1, 1), 1);
    }

    private static void gathers() {
        Layerboard b = boxes(4);
        Due.is("its number", b.gather(2, 0b1010), 4);
        int[] groups = {NONE, 4, NONE, 4};
        for (int i = 0; i < 4; i++) {
            Due.is("of " + i, b.of(i, 4), groups[i]);
        }
        Due.is("they move together", b.move(0, 1, 1, 1, false), 2);
        Due.is("a group is no shape", b.shapes(), 0b1111);
        Due.fails("a group is no shape", Due.INDEX, () -> b.of(4, 0));
        Due.is("undo", b.undo(2), 4);
        Due.is("gathered no more", b.of(1, 4), NONE);
        Layerboard c = boxes(3);
        c.gather(0, 0b011);
        c.gather(1, 0b110);
        Due.is("a group in a group", c.of(0, 4), 4);
        Due.is("undo of the outer one", c.undo(1), 4);
        Due.is("the inner one is the outermost again", c.of(0, 4), 3);
        Due.is("it moves alone", c.move(0, 2, 1, 1, false), 1);
    }

    private static void scatters() {
        Layerboard b = boxes(4);
        b.gather(0, 0b0011);
        b.gather(0, 0b0101);
        b.scatter(1, 1);
        Due.is("of the inner one", b.of(1, 4), 4);
        Due.is("of none", b.of(2, 4), NONE);
        b.scatter(1, 1);
        Due.is("of none", b.of(0, 4), NONE);
        Due.is("of none", b.of(1, 4), NONE);
        Due.fails("none is left", Due.STATE, () -> b.scatter(1, 1));
        Due.is("undo", b.undo(1), 7);
        Due.is("the inner one again", b.of(0, 4), 4);
    }

    private static void countsMembers() {
        Layerboard b = boxes(8);
        b.gather(0, 0b00000011);
        b.gather(0, 0b00001100);
        b.gather(0, 0b01110101);
        b.erase(0, 4);
        Due.is("two groups and two shapes that are left", b.scatter(0, 0), 4);
        Due.is("two shapes", b.scatter(0, 0), 2);
        b.erase(0, 2);
        b.gather(0, 0b01001000);
        b.erase(0, 3);
        Due.is("a group without shapes, and a shape", b.scatter(0, 6), 2);
        b.gather(0, 0b10100000);
        b.erase(0, 7);
        Due.is("one shape that is left", b.scatter(0, 5), 1);
    }

    private static void spreads() {
        Layerboard b = new Layerboard();
        b.box(0, 0, 1, 0, 5, 4, 4);
        b.box(0, 1, 1, 5, 15, 4, 4);
        b.box(0, 2, 1, 14, 25, 4, 4);
        b.box(0, 3, 1, 21, 35, 4, 4);
        b.gather(0, 0b0011);
        b.gather(0, 0b1101);
        // 21 - 4 less 8 are 9: gaps of 3, and the second one is there
        Due.is("how many moved", b.spread(1, 3), 1);
        placeIs("the first one", b, 0, 0, 5);
        placeIs("moved", b, 1, 7, 15);
        placeIs("not moved", b, 2, 14, 25);
        placeIs("the last one", b, 3, 21, 35);
        Due.is("none", b.spread(1, 0), 0);
        b.undo(1);
        b.undo(1);
        placeIs("undone", b, 1, 5, 15);
    }

    private static void putsUpGuides() {
        Layerboard b = boxes(1);
        Due.is("at 0", b.guide(0, true, 0), 1);
        Due.is("at 60", b.guide(1, true, 60), 2);
        Due.is("level at 0", b.guide(2, false, 0), 3);
        Due.is("level at 60", b.guide(0, false, 60), 4);
        Due.fails("-1", Due.ARGUMENT, () -> b.guide(0, true, -1));
        Due.fails("61", Due.ARGUMENT, () -> b.guide(0, false, 61));
        Due.fails("there is that one", Due.STATE, () -> b.guide(0, true, 60));
        Due.is("undo", b.undo(1), 2);
        Due.is("it is there no more", b.guide(1, true, 60), 4);
    }

    private static void snaps() {
        Layerboard b = new Layerboard();
        b.box(0, 0, 1, 10, 10, 4, 4);
        b.box(0, 0, 1, 16, 17, 4, 4);
        b.gather(0, 0b11);
        b.guide(0, true, 8);
        b.guide(0, false, 24);
        Due.is("2 to the left and 3 up", b.snap(1, 1), 5);
        placeIs("both", b, 0, 8, 13);
        placeIs("both", b, 1, 14, 20);
        Due.is("not again", b.snap(1, 1), 0);
        b.undo(1);
        b.undo(1);
        placeIs("undone", b, 0, 10, 10);
        b.scatter(0, 0);
        Due.is("one alone, across", b.snap(1, 0), 2);
        Due.is("the other one alone, up", b.snap(1, 1), 3);
    }

    private static void joins() {
        Layerboard b = new Layerboard();
        b.box(0, 2, 5, 0, 0, 10, 10);
        b.box(1, 3, 6, 5, 5, 10, 10);
        b.tie(0, 0, 1, 0);
        b.gather(0, 0b11);
        Due.is("its number", b.join(2, 0, 0, 1), 4);
        Due.is("the layer of the first one", b.of(4, 0), 2);
        Due.is("its colour", b.of(4, 1), 5);
        Due.is("its own hand", b.of(4, 9), 2);
        Due.is("no leader", b.of(4, 2), NONE);
        Due.is("no group", b.of(4, 4), NONE);
        Due.is("to the top", b.of(4, 7), 2);
        Due.is("they stay", b.shapes(), 0b10011);
        Due.is("its number", b.join(2, 0, 1, 0), 5);
        Due.is("the layer of the first one", b.of(5, 0), 3);
        Due.is("its colour", b.of(5, 1), 6);
        b.erase(0, 0);
        Due.is("it stays when one of them goes", b.area(4, false), 175);
    }

    private static void joinsByFourLaws() {
        int[] areas = {175, 25, 75, 150};
        for (int how = 0; how < 4; how++) {
            Layerboard b = new Layerboard();
            b.box(0, 2, 5, 0, 0, 10, 10);
            b.box(0, 2, 5, 5, 5, 10, 10);
            b.join(0, how, 0, 1);
            Due.is("by " + how, b.area(2, false), areas[how]);
        }
        for (int wrong : new int[] {-1, 4}) {
            Layerboard b = boxes(2);
            Due.fails("by " + wrong, Due.ARGUMENT, () -> b.join(0, wrong, 0, 1));
        }
    }

    private static void takesBackTheLatest() {
        Layerboard b = new Layerboard();
        b.box(0, 0, 1, 0, 0, 4, 4);
        b.box(1, 0, 1, 5, 5, 4, 4);
        b.paint(0, 1, 5);
        b.box(1, 0, 1, 10, 10, 4, 4);
        Due.is("the latest of hand 0", b.undo(0), 2);
        Due.is("it is taken back", b.of(1, 1), 1);
        Due.is("the next one of hand 0", b.undo(0), 0);
        Due.fails("none of hand 0 stands", Due.STATE, () -> b.undo(0));
        Due.fails("hand 2 made none", Due.STATE, () -> b.undo(2));
        Due.is("those of hand 1 stand", b.shapes(), 0b1010);
        b.paint(0, 1, 7);
        Due.is("a new one of hand 0", b.undo(0), 4);
        Due.is("that of hand 1", b.undo(1), 3);
        Due.is("that of hand 1", b.undo(1), 1);
        Due.is("empty", b.shapes(), 0);
    }

    private static void undoIsNoChange() {
        Layerboard b = boxes(2);
        b.undo(0);
        Due.is("no change", b.changes(), 2);
        Due.is("the next number", b.box(0, 0, 1, 0, 0, 1, 1), 2);
        Due.is("it can not be taken back itself", b.undo(0), 2);
        Due.is("but the one ahead", b.undo(0), 0);
        Layerboard full = Due.fillTo(boxes(2), 60);
        Due.is("when 60 are made", full.undo(0), 1);
    }

    private ChangeSentences() {
    }
}
