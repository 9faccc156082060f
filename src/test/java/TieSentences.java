/** "3 Ties", "4 Groups" and "5 Guides". */
final class TieSentences {
    private static final int NONE = Layerboard.NONE;

    static void tell(Doc d) {
        d.in("3 Ties");
        d.test(TieSentences::kinds, "A shape may follow another one", "Each other shape whose leader moves");
        d.test(TieSentences::rings, "A tie would form a ring");
        d.test(TieSentences::ringOfThirty, "A tie would form a ring");
        d.test(TieSentences::ringsAreRefused, "it is refused then.");
        d.test(TieSentences::leaderErased, "If a shape is erased");
        d.test(TieSentences::movedOnce, "To move some shapes by dx across");
        d.test(TieSentences::leadersOfLeaders, "Each other shape whose leader moves");
        d.test(TieSentences::noCornerLeaves, "If a corner would come to an x or y");
        d.test(TieSentences::noFollowerLeaves, "If a corner would come to an x or y");
        d.test(TieSentences::noErasedOneLeaves, "If a corner would come to an x or y");
        d.in("4 Groups");
        d.test(TieSentences::membersAreShapesOrGroups, "A group has members", "A shape belongs to a group");
        d.test(TieSentences::outermost, "Its outermost group is that");
        d.test(TieSentences::emptyGroupStays, "A group that lost its shapes stays");
        d.test(TieSentences::gathered, "To gather shapes");
        d.test(TieSentences::eachOnce, "To gather shapes");
        d.test(TieSentences::scattered, "To scatter the outermost group");
        d.test(TieSentences::goesTogether, "What goes together with a shape");
        d.test(TieSentences::frameOfSeveral, "The frame of several shapes");
        d.test(TieSentences::byLeftsThenNumbers, "To spread what goes together");
        d.test(TieSentences::gapsAllTheSame, "the shapes between them move across");
        d.test(TieSentences::firstGapsAreOneMore, "the shapes between them move across");
        d.test(TieSentences::threeAtLeast, "It asks for three shapes at least");
        d.test(TieSentences::gapsNotBelowNothing, "It asks for three shapes at least");
        d.test(TieSentences::nothingFollowsASpread, "Nothing follows in this.");
        d.in("5 Guides");
        d.test(TieSentences::eightGuides, "There are at most 8 guides");
        d.test(TieSentences::sidesAgainstGuides, "To snap what goes together");
        d.test(TieSentences::wholeMiddleOnly, "the middle only if it is whole.");
        d.test(TieSentences::notAboveFive, "Of the distances across");
        d.test(TieSentences::leastOfDistances, "Of the distances across");
        d.test(TieSentences::ofSeveralTheLeft, "Of the distances across");
        d.test(TieSentences::ofTheseTheLesser, "Of the distances across");
        d.test(TieSentences::theSameUp, "the same up");
        d.test(TieSentences::movedByBoth, "Then it is moved by both");
    }

    private static Layerboard boxes(int many) {
        Layerboard b = new Layerboard();
        for (int i = 0; i < many; i++) {
            b.box(0, i % 4, 1, 10 + i, 10 + i, 4, 4);
        }
        return b;
    }

    private static void placeIs(String what, Layerboard b, int shape, int left, int lower) {
        Due.is(what + ", left of " + shape, b.of(shape, 10), left);
        Due.is(what + ", lower of " + shape, b.of(shape, 11), lower);
    }

    // ---- 3 ties

    private static void kinds() {
        int[][] to = {{13, 8}, {13, 11}, {11, 9}};
        for (int kind = 0; kind < 3; kind++) {
            Layerboard b = boxes(2);
            Due.is("without a leader", b.of(1, 2), NONE);
            Due.is("without a kind", b.of(1, 3), NONE);
            b.tie(0, 1, 0, kind);
            Due.is("the kind", b.of(1, 3), kind);
            Due.is("two have come elsewhere", b.move(0, 0, 2, kind == 2 ? -2 : -3, true), 2);
            placeIs("kind " + kind, b, 1, to[kind][0], to[kind][1]);
        }
        Layerboard b = boxes(2);
        b.tie(0, 1, 0, 1);
        Due.is("across alone stays when its leader goes up", b.move(0, 0, 0, 5, true), 1);
        b.tie(0, 1, 0, 2);
        Due.is("up alone stays when its leader goes across", b.move(0, 0, 5, 0, true), 1);
        placeIs("it stays", b, 1, 11, 11);
        Due.fails("kind 3", Due.ARGUMENT, () -> b.tie(0, 1, 0, 3));
    }

    private static void rings() {
        Layerboard b = boxes(4);
        b.tie(0, 1, 0, 0);
        Due.is("the leader follows the shape", b.ring(0, 1, NONE), 2);
        Due.is("the shape follows the leader", b.ring(1, 0, NONE), 0);
        b.tie(0, 2, 1, 0);
        Due.is("over leaders of leaders", b.ring(0, 2, NONE), 3);
        Due.is("to a shape in between", b.ring(1, 2, NONE), 2);
        Due.is("from a shape that follows none of them", b.ring(3, 2, NONE), 0);
        Due.is("to a shape that follows none of them", b.ring(0, 3, NONE), 0);
        Due.is("the shape itself", b.ring(2, 2, NONE), 1);
    }

    private static void ringOfThirty() {
        Layerboard b = boxes(30);
        for (int i = 1; i < 30; i++) {
            Due.is("over its leader", b.tie(0, i, i - 1, 0), i - 1);
        }
        Due.is("all of them", b.ring(0, 29, NONE), 30);
        for (int i = 0; i < 30; i++) {
            Due.is("place " + i, b.ring(0, 29, i), i == 0 ? 0 : 30 - i);
        }
        Due.fails("place 30", Due.INDEX, () -> b.ring(0, 29, 30));
        Due.fails("refused", Due.STATE, () -> b.tie(0, 0, 29, 0));
        Due.is("all 30 move", b.move(0, 0, 1, 1, false), 30);
    }

    private static void ringsAreRefused() {
        Layerboard b = boxes(3);
        Due.fails("itself", Due.STATE, () -> b.tie(0, 0, 0, 0));
        b.tie(0, 1, 0, 1);
        b.tie(0, 2, 1, 2);
        Due.fails("two", Due.STATE, () -> b.tie(0, 0, 1, 0));
        Due.fails("three", Due.STATE, () -> b.tie(0, 0, 2, 2));
        Due.is("not tied", b.of(0, 2), NONE);
        Due.is("the same tie again is no ring", b.tie(0, 1, 0, 0), 0);
        Due.is("another kind", b.of(1, 3), 0);
        b.untie(0, 1);
        Due.is("no ring any more", b.tie(0, 0, 2, 0), 1);
    }

    private static void leaderErased() {
        Layerboard b = boxes(4);
        b.tie(0, 1, 0, 0);
        b.tie(0, 2, 0, 2);
        b.tie(0, 3, 1, 1);
        b.erase(0, 0);
        for (int i = 1; i < 3; i++) {
            Due.is("no leader", b.of(i, 2), NONE);
            Due.is("no kind", b.of(i, 3), NONE);
        }
        Due.is("the leader of that", b.of(3, 2), 1);
        Due.is("moves alone", b.move(0, 2, 1, 1, true), 1);
        Due.fails("none to be untied from", Due.STATE, () -> b.untie(0, 1));
        b.erase(0, 3);
        Due.is("a shape that followed is erased: its leader stays", b.shapes(), 0b0110);
        Layerboard c = boxes(2);
        c.tie(0, 0, 1, 2);
        Due.is("the one with the number 0 followed", c.erase(0, 1), 1);
        Due.is("no leader", c.of(0, 2), NONE);
        Due.is("no kind", c.of(0, 3), NONE);
    }

    private static void movedOnce() {
        Layerboard b = boxes(3);
        b.gather(0, 0b011);
        b.tie(0, 1, 0, 1);
        b.tie(0, 2, 1, 0);
        Due.is("the group, and what follows it", b.move(0, 0, 3, 5, false), 3);
        placeIs("not as it is tied, as its leader is one of them", b, 1, 14, 16);
        placeIs("and what follows that one", b, 2, 15, 17);
        Due.is("alone", b.move(0, 0, 1, 1, true), 3);
        placeIs("as it is tied", b, 1, 15, 16);
        placeIs("as its leader has moved", b, 2, 16, 17);
    }

    /** Along a row of ties, what goes across alone, and what follows it up alone, does not move at all. */
    private static void leadersOfLeaders() {
        Layerboard b = boxes(7);
        b.tie(0, 1, 0, 1);
        b.tie(0, 2, 1, 0);
        b.tie(0, 3, 2, 2);
        b.tie(0, 4, 3, 0);
        b.tie(0, 5, 0, 2);
        b.tie(0, 6, 5, 0);
        Due.is("those that come elsewhere", b.move(0, 0, 2, 3, true), 5);
        int[] left = {12, 13, 14, 13, 14, 15, 16};
        int[] lower = {13, 11, 12, 13, 14, 18, 19};
        for (int i = 0; i < 7; i++) {
            placeIs("moved", b, i, left[i], lower[i]);
        }
        Due.is("its leader does not move", b.move(0, 3, 1, 1, true), 2);
        placeIs("the leader", b, 2, 14, 12);
        placeIs("what follows", b, 4, 15, 15);
    }

    private static void noCornerLeaves() {
        Layerboard b = new Layerboard();
        b.box(0, 0, 1, 10, 20, 30, 25);
        int[][] most = {{-10, 0}, {20, 0}, {0, -20}, {0, 15}};
        for (int[] d : most) {
            int dx = d[0] + Integer.signum(d[0]);
            int dy = d[1] + Integer.signum(d[1]);
            Due.fails("one further", Due.STATE, () -> b.move(0, 0, dx, dy, false));
            Due.is("just to the edge", b.move(0, 0, d[0], d[1], false), 1);
            b.undo(0);
        }
        b.show(0, 0, false);
        Due.fails("of one that is not visible", Due.STATE, () -> b.move(0, 0, -11, 0, true));
        b.box(0, 1, 1, 50, 0, 10, 10);
        b.gather(0, 0b1 | 1L << b.changes() - 1);
        Due.fails("of another one of its group", Due.STATE, () -> b.move(0, 0, 1, 0, false));
        Due.is("alone", b.move(0, 0, 1, 0, true), 1);
        b.join(0, 2, 0, b.changes() - 3);
        Due.fails("of a polygon that it holds nothing of", Due.STATE, () -> b.move(0, b.changes() - 1, 1, 0, true));
    }

    private static void noFollowerLeaves() {
        for (int kind = 0; kind < 3; kind++) {
            Layerboard b = new Layerboard();
            b.box(0, 0, 1, 20, 20, 5, 5);
            b.box(0, 0, 1, 50, 50, 10, 9);
            b.tie(0, 1, 0, kind);
            if (kind == 2) {
                Due.is("it does not go across", b.move(0, 0, 1, 0, true), 1);
            } else {
                Due.fails("it would leave across", Due.STATE, () -> b.move(0, 0, 1, 0, true));
            }
            if (kind == 1) {
                Due.is("it does not go up", b.move(0, 0, 0, 2, true), 1);
            } else {
                Due.is("just to the edge", b.move(0, 0, 0, 1, true), 2);
                Due.fails("it would leave upward", Due.STATE, () -> b.move(0, 0, 0, 1, true));
            }
            Due.is("what could move has not", b.of(0, 11), kind == 1 ? 22 : 21);
        }
    }

    /** A shape that is erased stays behind, and is in the way of nothing. */
    private static void noErasedOneLeaves() {
        Layerboard b = new Layerboard();
        b.box(0, 0, 1, 10, 10, 4, 4);
        b.box(0, 0, 1, 56, 56, 4, 4);
        b.box(0, 0, 1, 50, 50, 10, 10);
        b.tie(0, 1, 0, 0);
        b.gather(0, 0b101);
        Due.fails("one at the edge follows", Due.STATE, () -> b.move(0, 0, 1, 1, true));
        b.erase(0, 1);
        Due.is("none follows any more", b.move(0, 0, 1, 1, true), 1);
        Due.fails("one at the edge is in its group", Due.STATE, () -> b.move(0, 0, 1, 1, false));
        b.erase(0, 2);
        Due.is("none is in its group any more", b.move(0, 0, 1, 1, false), 1);
    }

    // ---- 4 groups

    private static void membersAreShapesOrGroups() {
        Layerboard b = boxes(5);
        b.gather(0, 0b00011);
        b.gather(0, 0b00101);
        b.gather(0, 0b01100);
        for (int i = 0; i < 4; i++) {
            Due.is("belongs to the outermost", b.of(i, 4), 7);
        }
        Due.is("belongs to none", b.of(4, 4), NONE);
        Due.is("two members: a group and a shape", b.scatter(0, 0), 2);
        Due.is("the next one, of a group and a shape", b.scatter(0, 0), 2);
        Due.is("the next one, of two shapes", b.scatter(0, 0), 2);
        Due.fails("no more", Due.STATE, () -> b.scatter(0, 0));
    }

    private static void outermost() {
        Layerboard b = boxes(4);
        b.gather(0, 0b0011);
        Due.is("of one", b.of(0, 4), 4);
        b.gather(0, 0b0110);
        Due.is("that is no member of another one", b.of(0, 4), 5);
        Due.is("of the other one", b.of(1, 4), 5);
        Due.is("of the new one", b.of(2, 4), 5);
        Due.is("of none", b.of(3, 4), NONE);
        Due.is("all move", b.move(0, 0, 1, 1, false), 3);
        b.scatter(0, 1);
        Due.is("the inner one is the outermost then", b.of(0, 4), 4);
        Due.is("of none then", b.of(2, 4), NONE);
    }

    private static void emptyGroupStays() {
        Layerboard b = boxes(4);
        b.gather(0, 0b0011);
        b.gather(0, 0b0101);
        b.erase(0, 0);
        b.erase(0, 1);
        Due.is("a shape of the outer one", b.of(2, 4), 5);
        Due.is("the empty one is a member still", b.scatter(0, 2), 2);
        Due.is("no member any more", b.of(2, 4), NONE);
        Due.fails("one alone can not be gathered with it", Due.STATE, () -> b.gather(0, 0b0100));
        Due.is("gathered anew", b.gather(0, 0b1100), 9);
    }

    private static void gathered() {
        Layerboard b = boxes(6);
        Due.is("two shapes", b.gather(0, 0b000011), 6);
        Due.is("two others", b.gather(0, 0b001100), 7);
        Due.is("two groups and a shape", b.gather(0, 0b010110), 8);
        Due.is("of a shape that was not named", b.of(0, 4), 8);
        Due.is("of a shape that was not named", b.of(3, 4), 8);
        Due.is("of the shape itself", b.of(4, 4), 8);
        Due.is("of none", b.of(5, 4), NONE);
        Due.is("three members", b.scatter(0, 0), 3);
    }

    private static void eachOnce() {
        Layerboard b = boxes(4);
        b.gather(0, 0b0011);
        Due.fails("two of one group are one member", Due.STATE, () -> b.gather(0, 0b0011));
        Due.fails("one of it is, too", Due.STATE, () -> b.gather(0, 0b0001));
        b.gather(0, 0b0111);
        Due.is("two of one group, and a shape", b.of(0, 4), 5);
        Due.fails("of a group in a group", Due.STATE, () -> b.gather(0, 0b0101));
        Due.is("each once", b.scatter(0, 0), 2);
        Due.fails("none", Due.STATE, () -> b.gather(0, 0));
    }

    private static void scattered() {
        Layerboard b = boxes(4);
        b.gather(0, 0b0011);
        b.gather(0, 0b0111);
        b.gather(0, 0b1001);
        Due.is("a group and a shape", b.scatter(0, 1), 2);
        Due.is("only the outermost is gone", b.of(0, 4), 5);
        Due.is("a member of none", b.of(3, 4), NONE);
        Due.is("its members go on as groups", b.of(1, 4), 5);
        Due.is("together", b.move(0, 2, 1, 1, false), 3);
        b.scatter(0, 1);
        Due.is("no more with them", b.move(0, 2, 1, 1, false), 1);
        Due.is("it can be gathered anew", b.gather(0, 0b0101), 11);
        Due.is("with the group that it had", b.of(1, 4), 11);
    }

    private static void goesTogether() {
        Layerboard b = boxes(5);
        Due.is("it alone", b.move(0, 0, 1, 1, false), 1);
        b.gather(0, 0b0011);
        b.gather(0, 0b0101);
        Due.is("all shapes of its outermost group", b.move(0, 1, 1, 1, false), 3);
        placeIs("one that belongs to a member", b, 0, 12, 12);
        placeIs("one that belongs to none", b, 3, 13, 13);
        Due.is("that one alone", b.move(0, 3, 1, 1, false), 1);
        b.erase(0, 0);
        Due.is("without the one that is erased", b.move(0, 1, 1, 1, false), 2);
        b.erase(0, 2);
        Due.is("the last of its group", b.move(0, 1, 1, 1, false), 1);
        Due.is("it belongs to it still", b.of(1, 4), 7);
    }

    private static void frameOfSeveral() {
        Layerboard b = new Layerboard();
        b.box(0, 0, 1, 20, 10, 6, 6);
        b.box(0, 0, 1, 10, 30, 4, 4);
        b.box(0, 0, 1, 30, 20, 10, 2);
        b.gather(0, 0b111);
        // from 10 to 40 across, from 10 to 34 up: middles 25 and 22
        int[] uprights = {11, 26, 41};
        int[] levels = {12, 24, 36};
        for (int i = 0; i < 3; i++) {
            b.guide(0, true, uprights[i]);
            b.guide(0, false, levels[i]);
            Due.is("side " + i, b.snap(0, i), 3);
            placeIs("all by that", b, 0, 21, 12);
            b.undo(0);
            b.undo(0);
            b.undo(0);
        }
    }

    private static Layerboard row(int... leftsAndWidths) {
        Layerboard b = new Layerboard();
        long all = 0;
        for (int i = 0; i + 1 < leftsAndWidths.length; i += 2) {
            all |= 1L << b.box(0, i % 4, 1, leftsAndWidths[i], 10 + i, leftsAndWidths[i + 1], 3);
        }
        if (leftsAndWidths.length > 2) {
            b.gather(0, all);
        }
        return b;
    }

    private static void leftsAre(String what, Layerboard b, int... lefts) {
        for (int i = 0; i < lefts.length; i++) {
            placeIs(what, b, i, lefts[i], 10 + 2 * i);
        }
    }

    private static void byLeftsThenNumbers() {
        Layerboard b = row(40, 5, 0, 5, 6, 5);
        Due.is("one moves", b.spread(0, 0), 1);
        leftsAre("the first and the last one by lefts stay", b, 40, 0, 20);
        Layerboard c = row(0, 4, 0, 2, 20, 4);
        c.spread(0, 1);
        leftsAre("of two with the least left, that with the lesser number stays", c, 0, 11, 20);
        Layerboard d = row(20, 4, 20, 2, 0, 4);
        d.spread(0, 1);
        leftsAre("of two with the greatest left, that with the greater number stays", d, 10, 20, 0);
        Layerboard e = row(0, 2, 10, 4, 10, 2, 40, 2);
        e.spread(0, 2);
        leftsAre("between them, by numbers as well", e, 0, 13, 28, 40);
        Layerboard f = row(50, 4, 40, 3, 9, 2, 31, 5, 20, 6, 0, 4);
        // from 4 to 50 there are 46, less 2, 6, 5 and 3: gaps of 6
        Due.is("from the last to the first one", f.spread(0, 3), 4);
        leftsAre("from the last to the first one", f, 50, 41, 10, 30, 18, 0);
    }

    private static void gapsAllTheSame() {
        Layerboard b = row(0, 10, 11, 4, 12, 6, 50, 10);
        // 40 between the first and the last one, 10 taken: three gaps of 10
        Due.is("how many move", b.spread(0, 0), 2);
        leftsAre("gaps of 10", b, 0, 20, 34, 50);
        Due.is("again none moves", b.spread(0, 0), 0);
        Layerboard c = row(0, 5, 5, 5, 10, 5);
        Due.is("gaps of 0", c.spread(0, 0), 0);
        leftsAre("side by side", c, 0, 5, 10);
        Layerboard d = row(0, 20, 3, 2, 4, 2, 30, 2);
        d.spread(0, 0);
        leftsAre("of shapes that lay on one another", d, 0, 22, 26, 30);
    }

    private static void firstGapsAreOneMore() {
        int[][] due = {{0, 12, 24, 36, 48}, {0, 13, 25, 37, 49}, {0, 13, 26, 38, 50}, {0, 13, 26, 39, 51}, {0, 13, 26, 39, 52}};
        for (int more = 0; more < 5; more++) {
            Layerboard b = row(0, 2, 3, 2, 6, 2, 9, 2, 48 + more, 2);
            Due.is("how many move", b.spread(0, 0), 3);
            leftsAre(more + " more than 40", b, due[more]);
        }
        Layerboard b = row(0, 2, 1, 2, 2, 2, 7, 2);
        b.spread(0, 0);
        leftsAre("one more than nothing", b, 0, 3, 5, 7);
    }

    private static void threeAtLeast() {
        Layerboard b = row(0, 2);
        Due.fails("one", Due.STATE, () -> b.spread(0, 0));
        Layerboard c = row(0, 2, 10, 2);
        Due.fails("two", Due.STATE, () -> c.spread(0, 0));
        Layerboard d = row(0, 2, 5, 2, 20, 2);
        Due.is("three", d.spread(0, 0), 1);
        d.erase(0, 1);
        Due.fails("two of three are left", Due.STATE, () -> d.spread(0, 0));
    }

    private static void gapsNotBelowNothing() {
        Layerboard b = row(0, 10, 2, 20, 30, 5);
        Due.is("together 0", b.spread(0, 0), 1);
        leftsAre("side by side", b, 0, 10, 30);
        Layerboard c = row(0, 10, 2, 20, 29, 5);
        Due.fails("together -1", Due.STATE, () -> c.spread(0, 0));
        leftsAre("nothing moved", c, 0, 2, 29);
        Layerboard d = row(0, 10, 2, 30, 20, 2, 46, 3);
        Due.is("one below 0, together above", d.spread(0, 0), 2);
        // 46 - 10 - 30 - 2: gaps of 2, 1 and 1
        leftsAre("one below 0", d, 0, 12, 43, 46);
    }

    private static void nothingFollowsASpread() {
        Layerboard b = row(0, 2, 5, 2, 20, 2);
        int follower = b.box(0, 0, 1, 30, 30, 2, 2);
        b.tie(0, follower, 1, 0);
        b.tie(0, 2, 1, 0);
        Due.is("one moves", b.spread(0, 0), 1);
        leftsAre("the last one stays, though it follows", b, 0, 10, 20);
        placeIs("what follows stays", b, follower, 30, 30);
    }

    // ---- 5 guides

    private static void eightGuides() {
        Layerboard b = boxes(1);
        for (int i = 0; i < 8; i++) {
            Due.is("how many", b.guide(i % 3, i % 2 == 0, 50 + i / 2), i + 1);
        }
        Due.fails("a ninth upright one", Due.STATE, () -> b.guide(0, true, 0));
        Due.fails("a ninth level one", Due.STATE, () -> b.guide(0, false, 0));
        Due.is("one is taken back", b.undo(0), 7);
        Due.fails("there is that one", Due.STATE, () -> b.guide(0, true, 50));
        Due.fails("there is that one", Due.STATE, () -> b.guide(0, false, 51));
        Due.is("that one is not there any more", b.guide(0, true, 53), 8);
        Layerboard c = boxes(1);
        c.guide(0, true, 10);
        Due.is("an upright one and a level one at the same place", c.guide(0, false, 10), 2);
        Layerboard d = boxes(1);
        d.guide(0, true, 13);
        Due.is("an upright one pulls across alone", d.snap(0, 0), 1);
        placeIs("across, by the middle", d, 0, 11, 10);
        d.undo(0);
        d.undo(0);
        d.guide(0, false, 9);
        Due.is("a level one pulls up alone", d.snap(0, 0), 1);
        placeIs("up", d, 0, 10, 9);
    }

    /** Where a box from 20 to 30 across and up is snapped to. */
    private static int[] snapped(int wide, int[] uprights, int[] levels) {
        Layerboard b = new Layerboard();
        b.box(0, 0, 1, 20, 20, wide, wide);
        for (int at : uprights) {
            b.guide(0, true, at);
        }
        for (int at : levels) {
            b.guide(0, false, at);
        }
        int by = b.snap(0, 0);
        int[] to = {b.of(0, 10) - 20, b.of(0, 11) - 20};
        Due.is("by how much", by, Math.abs(to[0]) + Math.abs(to[1]));
        return to;
    }

    private static void pullIs(String what, int wide, int want, int... guides) {
        int[] across = snapped(wide, guides, new int[0]);
        int[] up = snapped(wide, new int[0], guides);
        Due.is(what + ", across", across[0], want);
        Due.is(what + ", not up", across[1], 0);
        Due.is(what + ", up", up[1], want);
        Due.is(what + ", not across", up[0], 0);
    }

    private static void sidesAgainstGuides() {
        pullIs("the left or lower side", 30, 2, 22);
        pullIs("the middle", 30, -3, 32);
        pullIs("the right or upper side", 30, 4, 54);
        pullIs("just at one", 30, 0, 50);
        pullIs("none", 30, 0);
        Layerboard b = new Layerboard();
        Due.draws(b, 0, 10, 0, 30, 0, 20);
        b.guide(0, true, 1);
        Due.is("an upright line at 0", b.snap(0, 0), 1);
        placeIs("an upright line at 0", b, 0, 1, 10);
        Due.draws(b, 10, 0, 30, 0, 20, 0);
        b.guide(0, false, 2);
        Due.is("a level line at 0", b.snap(0, 3), 2);
        placeIs("a level line at 0", b, 3, 10, 2);
        Due.draws(b, 60, 40, 60, 60, 60, 50);
        b.guide(0, true, 57);
        Due.is("an upright line at 60", b.snap(0, 6), 3);
        placeIs("an upright line at 60", b, 6, 57, 40);
    }

    private static void wholeMiddleOnly() {
        pullIs("whole", 30, 1, 36);
        pullIs("not whole", 31, 0, 36);
        pullIs("not whole, at the next one", 31, 0, 35);
        pullIs("whole, of an odd frame", 29, 0, 34);
        Layerboard b = new Layerboard();
        b.box(0, 0, 1, 15, 20, 25, 30);
        b.guide(0, true, 28);
        b.guide(0, false, 36);
        Due.is("27 and a half is not whole, 35 is", b.snap(0, 0), 1);
        placeIs("up alone", b, 0, 15, 21);
    }

    private static void notAboveFive() {
        for (int by = 4; by <= 6; by++) {
            int want = by > 5 ? 0 : by;
            pullIs("the left, above", 30, want, 20 + by);
            pullIs("the left, below", 30, -want, 20 - by);
            pullIs("the middle, above", 30, want, 35 + by);
            pullIs("the middle, below", 30, -want, 35 - by);
            pullIs("the right, above", 30, want, 50 + by);
            pullIs("the right, below", 30, -want, 50 - by);
        }
    }

    private static void leastOfDistances() {
        pullIs("of the left and the right", 30, -3, 24, 47);
        pullIs("of the right and the left", 30, 3, 23, 46);
        pullIs("of the middle and the left", 30, -1, 22, 34);
        pullIs("of the middle and the right", 30, 2, 37, 53);
        pullIs("of two of the left", 30, -3, 24, 17);
        pullIs("of two of the right, in the other order", 30, 3, 53, 46);
        pullIs("without signs", 30, 2, 22, 17);
    }

    private static void ofSeveralTheLeft() {
        pullIs("left and middle", 30, 2, 33, 22);
        pullIs("left and right", 30, -2, 52, 18);
        pullIs("left and right, the other way", 30, 2, 48, 22);
        pullIs("middle and right", 30, -2, 52, 33);
        pullIs("middle and right, the other way", 30, 2, 48, 37);
        pullIs("all three", 30, 2, 48, 33, 22);
        pullIs("left and right without a middle", 31, -2, 53, 18);
    }

    private static void ofTheseTheLesser() {
        pullIs("of the left", 30, -2, 22, 18);
        pullIs("of the left, in the other order", 30, -2, 18, 22);
        pullIs("of the middle", 30, -3, 38, 32);
        pullIs("of the right", 30, -5, 55, 45);
        pullIs("of the right, in the other order", 30, -5, 45, 55);
    }

    private static void theSameUp() {
        int[] to = snapped(30, new int[] {22, 33}, new int[] {48, 33});
        Due.is("across: the left first", to[0], 2);
        Due.is("up: the middle ahead of the upper side", to[1], -2);
        int[] other = snapped(30, new int[] {48}, new int[] {22, 18});
        Due.is("across: the right", other[0], -2);
        Due.is("up: that of the lesser y", other[1], -2);
    }

    private static void movedByBoth() {
        Layerboard b = boxes(3);
        b.gather(0, 0b011);
        b.tie(0, 2, 0, 1);
        b.guide(0, true, 13);
        b.guide(0, false, 20);
        // the frame is 10 to 15, without a middle: 13 is 2 left of the right, 20 is 5 above the upper side
        Due.is("across and up", b.snap(0, 0), 7);
        placeIs("one", b, 0, 8, 15);
        placeIs("the other one", b, 1, 9, 16);
        placeIs("what follows across alone", b, 2, 10, 12);
        Layerboard c = boxes(1);
        Due.is("none", c.snap(0, 0), 0);
        Due.is("it is a change", c.changes(), 2);
        c.guide(0, true, 10);
        Due.is("by 0", c.snap(0, 0), 0);
        Layerboard d = new Layerboard();
        d.box(0, 0, 1, 0, 0, 8, 8);
        d.box(0, 0, 1, 57, 30, 3, 3);
        d.tie(0, 1, 0, 0);
        d.guide(0, true, 1);
        Due.fails("what follows would leave", Due.STATE, () -> d.snap(0, 0));
        d.tie(0, 1, 0, 2);
        Due.is("up alone it stays", d.snap(0, 0), 1);
    }

    private TieSentences() {
    }
}
