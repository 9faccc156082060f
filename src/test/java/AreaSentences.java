/** "6 Joining, areas, meetings", "7 The picture" and "8 Texts". */
final class AreaSentences {
    private static final int NONE = Layerboard.NONE;

    static void tell(Doc d) {
        d.in("6 Joining, areas, meetings");
        d.test(AreaSentences::fourLaws, "Two shapes, which can be one and the same");
        d.test(AreaSentences::oneAndTheSame, "Two shapes, which can be one and the same");
        d.test(AreaSentences::polygonsBehind, "It has the polygons of the first one");
        d.test(AreaSentences::fourAtMost, "It has the polygons of the first one");
        d.test(AreaSentences::tablesOfJoined, "It has the polygons of the first one");
        d.test(AreaSentences::leastDenominators, "Areas are told as fractions");
        d.test(AreaSentences::crossingsInAllParts, "Areas are told as fractions");
        d.test(AreaSentences::lowEdges, "Areas are told as fractions");
        d.test(AreaSentences::sixtyFourEdges, "Areas are told as fractions");
        d.test(AreaSentences::endsMeetToo, "Two shapes, or one and itself, meet");
        d.test(AreaSentences::endsOnAllSides, "Two shapes, or one and itself, meet");
        d.test(AreaSentences::nearbyEndsDoNotMeet, "Two shapes, or one and itself, meet");
        d.test(AreaSentences::parallelsDoNotMeet, "Two shapes, or one and itself, meet");
        d.test(AreaSentences::oneMeetsItself, "Two shapes, or one and itself, meet");
        d.test(AreaSentences::eachPointOnce, "each point once");
        d.test(AreaSentences::meetingsInOrder, "each point once");
        d.test(AreaSentences::manyMeetings, "each point once");
        d.in("7 The picture");
        d.test(AreaSentences::visibleAtFirst, "A layer is visible, as all are at first", "its shapes are so, too.");
        d.test(AreaSentences::middlesOfCells, "The picture has cells x, y");
        d.test(AreaSentences::lastCells, "The picture has cells x, y");
        d.test(AreaSentences::noneIsNothing, "0 without one.");
        d.test(AreaSentences::fieldsByFourSteps, "A field is all cells");
        d.test(AreaSentences::fieldsAtTheEdges, "A field is all cells");
        d.test(AreaSentences::wayFromLeftLower, "A way from a shape to another one begins");
        d.test(AreaSentences::waysAreHeldUp, "A way from a shape to another one begins");
        d.test(AreaSentences::heldByTheThird, "A way from a shape to another one begins");
        d.test(AreaSentences::waysStayOnTheBoard, "A way from a shape to another one begins");
        d.test(AreaSentences::bends, "A bend is a step in another direction");
        d.test(AreaSentences::neitherVisible, "(These two need not be visible");
        d.test(AreaSentences::noSteps, "a way from a point to itself");
        d.test(AreaSentences::fewestBendsFirst, "Of all ways one with the fewest bends");
        d.test(AreaSentences::thenFewestSteps, "Of all ways one with the fewest bends");
        d.in("8 Texts");
        d.test(AreaSentences::eightySigns, "The tape has at most 80 signs");
        d.test(AreaSentences::signs, "The tape has at most 80 signs");
        d.test(AreaSentences::tapeStays, "it stays until it is wiped.");
        d.test(AreaSentences::numbers, "It is corners, if");
        d.test(AreaSentences::threeToEight, "It is corners, if");
        d.test(AreaSentences::firstWrongSign, "Its fault is the place");
        d.test(AreaSentences::tooShort, "its length, if there is none");
        d.test(AreaSentences::noFault, "NONE, if it is.");
        d.test(AreaSentences::edgesDoNotCount, "(What edges must be like does not count.)");
        d.test(AreaSentences::papers, "The paper of a shape is", "between polygons");
        d.test(AreaSentences::toldLast, "the out has the paper told last.");
        d.test(() -> allBoards(AreaSentences::cornersAndTables), "All is sound, if all corners");
        d.test(() -> allBoards(AreaSentences::keysOfLayers), "keys of a layer are unlike");
        d.test(() -> allBoards(AreaSentences::leadersAreThere), "there is no ring of ties");
        d.test(() -> allBoards(AreaSentences::groupsAreApart), "members of groups are");
        d.test(() -> allBoards(AreaSentences::areasOfNeighbours), "and of each two shapes");
        d.test(() -> Due.is("NONE", Layerboard.NONE, -1), "The constants: `NONE = -1`");
    }

    // ---- 6 joining, areas, meetings

    private static Layerboard twoBoxes() {
        Layerboard b = new Layerboard();
        b.box(0, 0, 1, 0, 0, 10, 10);
        b.box(0, 0, 1, 5, 5, 10, 10);
        return b;
    }

    private static void fourLaws() {
        boolean[][] held = {{true, true, true}, {false, true, false}, {true, false, false}, {true, false, true}};
        int[] places = {4, 14, 24};
        for (int how = 0; how < 4; how++) {
            Layerboard b = twoBoxes();
            b.join(0, how, 0, 1);
            for (int i = 0; i < 3; i++) {
                Due.is("by " + how + ", of first, both, second: " + i, b.holds(2, places[i], places[i]), held[how][i]);
            }
            Due.is("by " + how + ", of none", b.holds(2, 40, 40), false);
            Due.is("on the second one's lower edge", b.holds(2, 14, 10), held[how][1]);
            Due.is("on the first one's upper edge", b.holds(2, 14, 20), held[how][2]);
        }
        Due.fails("by 4", Due.ARGUMENT, () -> twoBoxes().join(0, 4, 0, 1));
    }

    private static void oneAndTheSame() {
        int[] areas = {100, 100, 0, 0};
        for (int how = 0; how < 4; how++) {
            Layerboard b = twoBoxes();
            Due.is("by " + how, b.areaOf(how, 0, 0, false), areas[how]);
            b.join(0, how, 0, 0);
            Due.is("joined by " + how, b.area(2, false), areas[how]);
            Due.is("with both its polygons", b.of(2, 5), 2);
            Due.is("holds a point", b.holds(2, 9, 9), areas[how] > 0);
        }
    }

    private static void polygonsBehind() {
        Layerboard b = new Layerboard();
        Due.draws(b, 0, 0, 4, 0, 0, 4);
        b.box(1, 2, 5, 10, 10, 2, 2);
        b.join(0, 0, 1, 0);
        b.join(2, 0, 0, 2);
        Due.paperIs("the first one's ahead", b, 2, "(10,10)(12,10)(12,12)(10,12);(0,0)(4,0)(0,4)");
        Due.paperIs("three", b, 3, "(0,0)(4,0)(0,4);(10,10)(12,10)(12,12)(10,12);(0,0)(4,0)(0,4)");
        b.move(0, 0, 9, 9, true);
        Due.paperIs("as they were", b, 2, "(10,10)(12,10)(12,12)(10,12);(0,0)(4,0)(0,4)");
    }

    private static void fourAtMost() {
        Layerboard b = twoBoxes();
        b.join(0, 0, 0, 1);
        b.join(0, 0, 2, 0);
        Due.is("1 and 3", b.join(0, 0, 0, 3), 4);
        Due.is("2 and 2", b.join(0, 0, 2, 2), 5);
        Due.is("3 and 1", b.join(0, 0, 3, 1), 6);
        Due.fails("2 and 3", Due.STATE, () -> b.join(0, 0, 2, 3));
        Due.fails("3 and 2", Due.STATE, () -> b.join(0, 0, 3, 2));
        Due.fails("1 and 4", Due.STATE, () -> b.join(0, 0, 0, 4));
        Due.fails("4 and 1", Due.STATE, () -> b.join(0, 0, 4, 0));
        Due.is("areas are told of more than 4", b.areaOf(1, 4, 5, false), 175);
        Due.is("eight", b.areaOf(0, 4, 6, false), 175);
        Due.is("none", b.areaOf(3, 5, 6, false), 0);
    }

    private static void tablesOfJoined() {
        int[] two = {0b1110, 0b1000, 0b0010, 0b0110};
        // of the first two by 3 and a third one: sets 1 and 2 of the first two, bit 2 for the third one
        int[] three = {0b1111_0110, 0b0110_0000, 0b0000_0110, 0b1001_0110};
        int[] turned = {0b1011_1110, 0b0010_1000, 0b1000_0010, 0b1001_0110};
        for (int how = 0; how < 4; how++) {
            Layerboard b = twoBoxes();
            b.join(0, how, 0, 1);
            b.join(0, 3, 0, 1);
            b.join(0, how, 3, 0);
            b.join(0, how, 0, 3);
            Due.is("one and one", b.of(2, 6), two[how]);
            Due.is("two and one", b.of(4, 6), three[how]);
            Due.is("one and two", b.of(5, 6), turned[how]);
        }
    }

    private static void areaIs(String what, Layerboard b, int shape, int top, int bottom) {
        Due.is(what + ", numerator", b.area(shape, false), top);
        Due.is(what + ", denominator", b.area(shape, true), bottom);
    }

    private static void leastDenominators() {
        Layerboard b = new Layerboard();
        Due.draws(b, 0, 0, 3, 0, 3, 3);
        areaIs("nine halves", b, 0, 9, 2);
        Due.draws(b, 0, 0, 4, 0, 4, 4);
        areaIs("sixteen halves are eight", b, 1, 8, 1);
        Due.draws(b, 0, 0, 4, 0, 2, 0);
        areaIs("nothing has the denominator 1", b, 2, 0, 1);
        b.box(0, 0, 1, 50, 50, 4, 4);
        Due.is("nothing in common", b.areaOf(1, 1, 3, false), 0);
        Due.is("nothing in common, the denominator", b.areaOf(1, 1, 3, true), 1);
        b.box(0, 0, 1, 0, 0, 60, 60);
        areaIs("the most", b, 4, 3600, 1);
        Due.is("what they have in common", b.areaOf(1, 0, 4, false), 9);
        Due.is("what they have in common, the denominator", b.areaOf(1, 0, 4, true), 2);
        Due.is("the rest", b.areaOf(2, 4, 0, false), 7191);
        Due.is("the rest, the denominator", b.areaOf(2, 4, 0, true), 2);
    }

    /** Triangles of which leaning edges cross at places that are whole, or in thirds, fifths and quarters. */
    private static void crossingsInAllParts() {
        Layerboard b = new Layerboard();
        // y = 2x to (5, 10) and y = 10 - x / 2 to (20, 0) cross at (4, 8); y = 10 - x at (10 / 3, 20 / 3)
        Due.draws(b, 0, 0, 20, 0, 0, 10);
        Due.draws(b, 0, 0, 10, 0, 10, 20);
        Due.draws(b, 0, 0, 10, 0, 0, 10);
        Due.is("in whole ones: 16 and 39", b.areaOf(1, 0, 1, false), 55);
        Due.is("in whole ones, the denominator", b.areaOf(1, 0, 1, true), 1);
        Due.is("in thirds", b.areaOf(1, 1, 2, false), 100);
        Due.is("in thirds, the denominator", b.areaOf(1, 1, 2, true), 3);
        // y = 10 - x / 2 and y = 2x + 1 cross at (18 / 5, 41 / 5)
        Due.draws(b, 0, 1, 0, 11, 5, 11);
        // above y = 2x + 1, below 10 - x / 2: the triangle (0, 1), (18 / 5, 41 / 5), (0, 10)
        Due.is("in fifths", b.areaOf(1, 0, 3, false), 81);
        Due.is("in fifths, the denominator", b.areaOf(1, 0, 3, true), 5);
        // y = 2x and y = 11 - 2x cross at (11 / 4, 11 / 2): 117 / 16 below and 117 / 16 above
        Due.draws(b, 0, 11, 5, 1, 0, 1);
        Due.draws(b, 0, 0, 5, 10, 0, 10);
        Due.is("in eighths", b.areaOf(1, 4, 5, false), 117);
        Due.is("in eighths, the denominator", b.areaOf(1, 4, 5, true), 8);
    }

    /** Edges that go up, or down, by 1 alone. */
    private static void lowEdges() {
        Layerboard b = new Layerboard();
        Due.draws(b, 0, 0, 2, 1, 0, 1);
        areaIs("up by 1, to the right by 2", b, 0, 1, 1);
        Due.draws(b, 0, 0, 2, 0, 0, 1);
        areaIs("up by 1, to the left by 2", b, 1, 1, 1);
        Due.draws(b, 0, 1, 2, 0, 2, 1);
        areaIs("down by 1, to the right by 2", b, 2, 1, 1);
        Due.draws(b, 2, 1, 0, 0, 2, 0);
        areaIs("down by 1, to the left by 2", b, 3, 1, 1);
        Due.draws(b, 0, 0, 1, 1, 0, 1);
        areaIs("up by 1, to the right by 1", b, 4, 1, 2);
        Due.is("left of the middle of the edge", b.holds(4, 0, 1), true);
        Due.is("on the edge", b.holds(4, 1, 1), false);
    }

    /** Eight corners, all edges leaning, 12 wide and high: 144 less 4 times 12. */
    private static int eightCorners(Layerboard b, int x, int y) {
        return Due.draws(b, x + 6, y, x + 10, y + 2, x + 12, y + 6, x + 10, y + 10, x + 6, y + 12, x + 2, y + 10, x, y + 6,
                x + 2, y + 2);
    }

    /** Four of them joined; there are four places in a row, row by row. */
    private static int fourOfThem(Layerboard b, int first) {
        int[] four = new int[4];
        for (int i = 0; i < 4; i++) {
            four[i] = eightCorners(b, 14 * ((first + i) % 4), 14 * ((first + i) / 4));
        }
        return b.join(0, 0, b.join(0, 0, four[0], four[1]), b.join(0, 0, four[2], four[3]));
    }

    private static void sixtyFourEdges() {
        Layerboard b = new Layerboard();
        int one = fourOfThem(b, 0);
        int other = fourOfThem(b, 6);
        int half = fourOfThem(b, 2);
        areaIs("four", b, one, 384, 1);
        int[] apart = {768, 0, 384, 768};
        int[] together = {576, 192, 192, 384};
        for (int how = 0; how < 4; how++) {
            Due.is("none in common, by " + how, b.areaOf(how, one, other, false), apart[how]);
            Due.is("two in common, by " + how, b.areaOf(how, one, half, false), together[how]);
            Due.is("two in common, the other way, by " + how, b.areaOf(how, half, one, false), together[how]);
        }
    }

    private static void meetingIs(String what, Layerboard b, int one, int other, int place, int... want) {
        for (int i = 0; i < 4; i++) {
            Due.is(what + ", place " + place + ", " + i, b.meeting(one, other, place, i), want[i]);
        }
    }

    private static void endsMeetToo() {
        Layerboard b = new Layerboard();
        b.box(0, 0, 1, 10, 10, 10, 10);
        b.diamond(0, 0, 1, 25, 15, 5);
        Due.is("a corner on an edge", b.meetings(0, 1), 1);
        meetingIs("a corner on an edge", b, 0, 1, 0, 20, 1, 15, 1);
        b.box(0, 0, 1, 20, 20, 5, 5);
        Due.is("corner on corner", b.meetings(0, 2), 1);
        b.box(0, 0, 1, 21, 10, 5, 5);
        Due.is("one beside it", b.meetings(0, 3), 0);
        Due.draws(b, 20, 8, 24, 4, 24, 8);
        Due.is("edges that would meet if they went on", b.meetings(0, 4), 0);
        Due.draws(b, 15, 12, 18, 12, 18, 15);
        Due.is("within it", b.meetings(0, 5), 0);
        Due.draws(b, 19, 15, 23, 13, 19, 11);
        Due.is("edges that cross", b.meetings(0, 6), 2);
        meetingIs("half way up", b, 0, 6, 0, 20, 1, 23, 2);
        meetingIs("half way up", b, 0, 6, 1, 20, 1, 29, 2);
    }

    private static void rectangle(Layerboard b, int x, int y, int wide, int high, boolean otherWay) {
        if (otherWay) {
            Due.draws(b, x, y, x, y + high, x + wide, y + high, x + wide, y);
        } else {
            b.box(0, 0, 1, x, y, wide, high);
        }
    }

    /** Two ends of edges of the one lie on an edge of the other one, beside which a third edge lies. */
    private static void endsOnAllSides() {
        int[][] beside = {{20, 12, 5, 5}, {5, 12, 5, 5}, {12, 20, 5, 5}, {12, 5, 5, 5}};
        for (int[] r : beside) {
            for (int turned = 0; turned < 4; turned++) {
                Layerboard b = new Layerboard();
                rectangle(b, 10, 10, 10, 10, turned % 2 == 1);
                rectangle(b, r[0], r[1], r[2], r[3], turned / 2 == 1);
                Due.is("two ends", b.meetings(0, 1), 2);
                Due.is("two ends, the other way", b.meetings(1, 0), 2);
            }
        }
    }

    private static void nearbyEndsDoNotMeet() {
        int[] due = {4, 2, 1};
        for (int dx = -2; dx <= 2; dx++) {
            for (int dy = -2; dy <= 2; dy++) {
                for (int turned = 0; turned < 4; turned++) {
                    Layerboard b = new Layerboard();
                    rectangle(b, 10, 10, 1, 1, turned % 2 == 1);
                    rectangle(b, 10 + dx, 10 + dy, 1, 1, turned / 2 == 1);
                    boolean isNear = Math.abs(dx) < 2 && Math.abs(dy) < 2;
                    int want = isNear ? due[Math.abs(dx) + Math.abs(dy)] : 0;
                    Due.is(dx + " and " + dy + " beside it", b.meetings(0, 1), want);
                }
            }
        }
    }

    private static void parallelsDoNotMeet() {
        Layerboard b = new Layerboard();
        b.box(0, 0, 1, 10, 10, 10, 10);
        b.box(0, 0, 1, 20, 12, 5, 5);
        // its left edge lies on the box's right one; its level edges end on it
        Due.is("two ends of level edges", b.meetings(0, 1), 2);
        meetingIs("the lower end", b, 0, 1, 0, 20, 1, 12, 1);
        Due.draws(b, 30, 10, 40, 10, 35, 10);
        Due.draws(b, 32, 10, 38, 10, 35, 10);
        Due.is("flat ones on one another do not meet", b.meetings(2, 3), 0);
        Due.is("nor one and itself", b.meetings(2, 2), 0);
        Due.draws(b, 30, 30, 40, 40, 35, 35);
        Due.draws(b, 40, 40, 50, 50, 45, 45);
        Due.is("nor end on end", b.meetings(4, 5), 0);
    }

    private static void oneMeetsItself() {
        Layerboard b = new Layerboard();
        b.box(0, 0, 1, 10, 10, 10, 10);
        Due.is("a box at its corners", b.meetings(0, 0), 4);
        Due.draws(b, 0, 0, 10, 10, 10, 0, 0, 10);
        Due.is("crossing edges", b.meetings(1, 1), 5);
        meetingIs("the crossing", b, 1, 1, 2, 5, 1, 5, 1);
        b.join(0, 0, 0, 1);
        // 4 and 5, with (10, 10) in both
        Due.is("two polygons", b.meetings(2, 2), 8);
        Due.is("one and what it was made of", b.meetings(2, 1), 5);
    }

    private static void eachPointOnce() {
        Layerboard b = new Layerboard();
        Due.draws(b, 10, 10, 20, 10, 20, 20, 10, 20, 10, 10, 20, 10, 20, 20, 10, 20);
        Due.is("twice round", b.meetings(0, 0), 4);
        b.box(0, 0, 1, 10, 10, 10, 10);
        Due.is("the same corners", b.meetings(0, 1), 4);
        b.join(0, 0, 0, 1);
        b.join(0, 0, 1, 1);
        Due.is("of many polygons", b.meetings(2, 3), 4);
        Due.draws(b, 15, 15, 25, 15, 25, 5, 15, 15, 5, 15, 5, 25);
        Due.is("a corner that stands twice", b.meetings(4, 4), 5);
    }

    private static void meetingsInOrder() {
        Layerboard b = new Layerboard();
        b.box(0, 0, 1, 10, 10, 20, 20);
        b.diamond(0, 0, 1, 20, 20, 12);
        int[][] due = {{10, 18}, {10, 22}, {18, 10}, {18, 30}, {22, 10}, {22, 30}, {30, 18}, {30, 22}};
        Due.is("how many", b.meetings(0, 1), 8);
        for (int i = 0; i < 8; i++) {
            meetingIs("from 0", b, 0, 1, i, due[i][0], 1, due[i][1], 1);
            meetingIs("the other way", b, 1, 0, i, due[i][0], 1, due[i][1], 1);
        }
        Due.fails("place 8", Due.INDEX, () -> b.meeting(0, 1, 8, 0));
        Layerboard c = new Layerboard();
        Due.draws(c, 0, 0, 4, 0, 4, 8);
        Due.draws(c, 0, 3, 3, 0, 3, 3);
        // y = 2x and y = 3 - x cross at (1, 2), the upright edge at x 3 from 0 to 3 lies within
        Due.is("two", c.meetings(0, 1), 3);
        meetingIs("the least x", c, 0, 1, 0, 1, 1, 2, 1);
        meetingIs("the next", c, 0, 1, 1, 3, 2, 3, 1);
        meetingIs("on the lower edge", c, 0, 1, 2, 3, 1, 0, 1);
    }

    /** Sixteen upright edges and sixteen level ones from side to side, in four polygons of eight corners each. */
    private static void manyMeetings() {
        Layerboard b = new Layerboard();
        for (int i = 0; i < 8; i++) {
            int at = 16 * (i % 4);
            int[] row = {at, 0, at, 60, at + 4, 60, at + 4, 0, at + 8, 0, at + 8, 60, at + 12, 60, at + 12, 0};
            for (int k = 0; k < 8 && i >= 4; k++) {
                int x = row[2 * k];
                row[2 * k] = row[2 * k + 1];
                row[2 * k + 1] = x;
            }
            Due.draws(b, row);
        }
        int upright = b.join(0, 0, b.join(0, 0, 0, 1), b.join(0, 0, 2, 3));
        int level = b.join(0, 0, b.join(0, 0, 4, 5), b.join(0, 0, 6, 7));
        Due.is("how many", b.meetings(upright, level), 256);
        for (int place = 0; place < 256; place += 15) {
            meetingIs("many", b, upright, level, place, 4 * (place / 16), 1, 4 * (place % 16), 1);
        }
        Due.fails("place 256", Due.INDEX, () -> b.meeting(upright, level, 256, 0));
        Due.is("sound", b.isSound(), true);
    }

    // ---- 7 the picture

    private static void visibleAtFirst() {
        Layerboard b = new Layerboard();
        for (int layer = 0; layer < 4; layer++) {
            b.box(0, layer, layer + 1, 10 * layer, 0, 10, 10);
            Due.is("visible at first", b.hit(20 * layer, 0), layer);
        }
        for (int layer = 0; layer < 4; layer++) {
            b.show(0, layer, false);
            for (int i = 0; i < 4; i++) {
                Due.is("only that layer's are not", b.hit(20 * i, 0), i == layer ? NONE : i);
                Due.is("nor are they caught", b.caught(10 * i, 0, 10, 10, true), i == layer ? 0 : 1L << i);
                Due.is("nor are their points", b.caught(10 * i, 0, 10, 10, false), i == layer ? 0 : 1L << i);
                Due.is("nor have cells their colour", b.cell(10 * i, 0), i == layer ? 0 : i + 1);
            }
            b.show(0, layer, true);
        }
        b.show(0, 2, false);
        b.toLayer(0, 0, 2);
        Due.is("a shape that comes there is not", b.hit(0, 0), NONE);
        b.toLayer(0, 2, 0);
        Due.is("a shape that goes elsewhere is", b.hit(40, 0), 2);
        Due.is("all are there", b.shapes(), 0b1111);
    }

    private static void middlesOfCells() {
        Layerboard b = new Layerboard();
        b.box(0, 0, 3, 10, 10, 4, 4);
        b.box(0, 1, 5, 12, 12, 4, 4);
        Due.is("below", b.cell(11, 9), 0);
        Due.is("the first one", b.cell(10, 10), 3);
        Due.is("the last one of the lower shape", b.cell(13, 11), 3);
        Due.is("the upper shape", b.cell(12, 12), 5);
        Due.is("its last one", b.cell(15, 15), 5);
        Due.is("above", b.cell(14, 16), 0);
        Due.is("to the right", b.cell(16, 14), 0);
        Due.draws(b, 30, 30, 34, 30, 30, 34);
        // the middles (33 - k and a half, 30 + k and a half) lie on its leaning edge
        for (int k = 0; k < 4; k++) {
            Due.is("a middle on a right edge", b.cell(33 - k, 30 + k), 0);
            Due.is("a middle within", k == 3 || b.cell(32 - k, 30 + k) == 1, true);
        }
        Due.draws(b, 40, 44, 44, 40, 44, 44);
        for (int k = 0; k < 4; k++) {
            Due.is("a middle on a left edge", b.cell(43 - k, 40 + k), 1);
        }
        b.paint(0, 1, 9);
        b.toLayer(0, 1, 0);
        b.raise(0, 1, 3);
        Due.is("the uppermost one's", b.cell(12, 12), 3);
        Due.is("the other one's", b.cell(15, 15), 9);
    }

    private static void lastCells() {
        Layerboard b = new Layerboard();
        b.box(0, 0, 1, 0, 0, 60, 60);
        b.box(0, 0, 2, 59, 59, 1, 1);
        b.box(0, 0, 3, 0, 59, 1, 1);
        b.box(0, 0, 4, 59, 0, 1, 1);
        Due.is("the first one", b.cell(0, 0), 1);
        Due.is("right, upper", b.cell(59, 59), 2);
        Due.is("left, upper", b.cell(0, 59), 3);
        Due.is("right, lower", b.cell(59, 0), 4);
        int row = 59 * 60 / 2;
        Due.is("the lowest row", b.row(0), row + 4 * 60);
        Due.is("the uppermost row", b.row(59), row - 1 + 3 + 2 * 60);
        Due.fails("60", Due.INDEX, () -> b.cell(60, 59));
        Due.fails("60", Due.INDEX, () -> b.cell(59, 60));
    }

    private static void noneIsNothing() {
        Layerboard b = new Layerboard();
        Due.is("no shape", b.cell(5, 5), 0);
        b.box(0, 0, 7, 5, 5, 1, 1);
        b.box(0, 0, 7, 20, 20, 5, 5);
        b.join(0, 2, 1, 1);
        Due.is("one", b.cell(5, 5), 7);
        b.erase(0, 0);
        Due.is("erased", b.cell(5, 5), 0);
        b.erase(0, 1);
        Due.is("one that holds nothing", b.cell(22, 22), 0);
        Due.is("a row of none", b.row(22), 0);
        Due.is("the field of none", b.field(22, 22), 3600);
    }

    private static void fieldsByFourSteps() {
        Layerboard b = new Layerboard();
        int[][] cells = {{30, 30}, {31, 30}, {29, 30}, {30, 31}, {30, 29}};
        for (int[] c : cells) {
            b.box(0, 0, 4, c[0], c[1], 1, 1);
        }
        for (int[] c : cells) {
            Due.is("four steps from the middle, and back", b.field(c[0], c[1]), 5);
        }
        b.box(0, 0, 4, 32, 31, 1, 1);
        b.box(0, 0, 4, 28, 29, 1, 1);
        Due.is("not by a corner", b.field(30, 30), 5);
        Due.is("one alone", b.field(32, 31), 1);
        b.paint(0, 0, 5);
        Due.is("another colour parts it", b.field(31, 30), 1);
        Due.is("the one alone", b.field(30, 30), 1);
        Due.is("all others", b.field(0, 0), 3600 - 7);
        b.box(0, 1, 5, 31, 30, 1, 1);
        Due.is("the same colour of two layers", b.field(30, 30), 2);
        b.show(0, 1, false);
        Due.is("visible ones", b.field(30, 30), 1);
    }

    /** A field does not go on from the end of a row to the begin of the next one, nor from side to side. */
    private static void fieldsAtTheEdges() {
        Layerboard b = new Layerboard();
        b.box(0, 0, 1, 1, 0, 58, 60);
        Due.is("the left column", b.field(0, 30), 60);
        Due.is("the right column", b.field(59, 30), 60);
        Due.is("the rest", b.field(1, 0), 58 * 60);
        Layerboard c = new Layerboard();
        c.box(0, 0, 1, 0, 1, 60, 58);
        Due.is("the lowest row", c.field(30, 0), 60);
        Due.is("the uppermost row", c.field(30, 59), 60);
        Layerboard d = new Layerboard();
        d.box(0, 0, 3, 0, 0, 60, 60);
        Due.is("all", d.field(59, 59), 3600);
        // a snail of one cell in width
        Layerboard e = new Layerboard();
        for (int i = 0; i < 15; i++) {
            e.box(0, 0, 1, i % 2 == 0 ? 0 : 1, 4 * i + 1, 59, 1);
        }
        Due.is("to and fro", e.field(0, 0), 3600 - 15 * 59);
    }

    private static void wayIs(String what, Layerboard b, int shape, int other, int bends, int steps) {
        Due.is(what + ", bends", b.way(shape, other, false), bends);
        Due.is(what + ", steps", b.way(shape, other, true), steps);
        Due.is(what + ", bends back", b.way(other, shape, false), bends);
        Due.is(what + ", steps back", b.way(other, shape, true), steps);
    }

    private static void wayFromLeftLower() {
        Layerboard b = new Layerboard();
        b.diamond(0, 0, 1, 10, 10, 4);
        b.box(0, 0, 1, 30, 6, 9, 9);
        b.diamond(0, 0, 1, 40, 40, 5);
        b.box(0, 0, 1, 6, 50, 1, 1);
        wayIs("from (6, 6) to (30, 6)", b, 0, 1, 0, 24);
        wayIs("from (6, 6) to (35, 35)", b, 0, 2, 1, 58);
        wayIs("from (6, 6) to (6, 50)", b, 0, 3, 0, 44);
        wayIs("from (30, 6) to (6, 50)", b, 1, 3, 1, 68);
    }

    private static void waysAreHeldUp() {
        Layerboard b = new Layerboard();
        b.box(0, 0, 1, 5, 5, 1, 1);
        b.box(0, 0, 1, 20, 5, 1, 1);
        int wall = b.box(0, 3, 1, 10, 5, 1, 1);
        wayIs("a point of a third one in the way", b, 0, 1, 2, 17);
        b.move(0, wall, 0, 1, true);
        wayIs("its lower edge is above", b, 0, 1, 0, 15);
        b.move(0, wall, 0, -2, true);
        wayIs("its upper edge is not held", b, 0, 1, 0, 15);
        b.move(0, wall, 0, 1, true);
        b.show(0, 3, false);
        wayIs("a third one that is not visible", b, 0, 1, 0, 15);
        b.show(0, 3, true);
        wayIs("of the one in the way itself", b, 0, wall, 0, 5);
        b.erase(0, wall);
        wayIs("none any more", b, 0, 1, 0, 15);
        // what holds nothing is not in the way
        b.box(0, 2, 1, 8, 0, 2, 50);
        b.join(0, 3, 9, 9);
        b.erase(0, 9);
        wayIs("one that holds nothing", b, 0, 1, 0, 15);
    }

    /** The first and the last point count as well, also for a way from a shape to itself. */
    private static void heldByTheThird() {
        Layerboard a = new Layerboard();
        a.box(0, 0, 1, 10, 0, 1, 30);
        a.box(0, 0, 1, 5, 5, 4, 4);
        a.box(0, 0, 1, 20, 5, 4, 4);
        wayIs("the third one has the number 0", a, 1, 2, 2, 15 + 50);
        Layerboard b = new Layerboard();
        b.box(0, 0, 1, 5, 5, 4, 4);
        b.box(0, 0, 1, 20, 5, 4, 4);
        int third = b.box(0, 3, 1, 4, 4, 2, 2);
        wayIs("the first point, and the last one back", b, 0, 1, NONE, NONE);
        wayIs("from it to itself", b, 0, 0, NONE, NONE);
        wayIs("from the other one to itself", b, 1, 1, 0, 0);
        wayIs("to the one that holds it", b, 0, third, 1, 2);
        wayIs("from the third one to itself", b, third, third, 0, 0);
        b.move(0, third, -1, 0, true);
        wayIs("its right edge is not held", b, 0, 1, 0, 15);
        b.move(0, third, 2, 1, true);
        wayIs("its left, lower corner is", b, 0, 0, NONE, NONE);
        b.show(0, 3, false);
        wayIs("not visible", b, 0, 0, 0, 0);
        wayIs("not visible", b, 0, 1, 0, 15);
    }

    private static void waysStayOnTheBoard() {
        Layerboard b = new Layerboard();
        b.box(0, 0, 1, 0, 0, 1, 1);
        b.box(0, 0, 1, 50, 0, 1, 1);
        b.box(0, 0, 1, 30, 0, 1, 60);
        // the wall holds (30, 0) to (30, 59): (30, 60) is left
        wayIs("over the uppermost points", b, 0, 1, 2, 170);
        b.erase(0, 2);
        b.box(0, 0, 1, 30, 1, 30, 59);
        b.box(0, 0, 1, 30, 0, 1, 1);
        wayIs("over the uppermost points, down the rightmost ones", b, 0, 1, 3, 190);
        Layerboard c = new Layerboard();
        c.box(0, 0, 1, 0, 0, 1, 1);
        c.box(0, 0, 1, 0, 50, 1, 1);
        c.box(0, 0, 1, 0, 20, 60, 1);
        wayIs("over the rightmost points", c, 0, 1, 2, 170);
        c.box(0, 0, 1, 0, 10, 50, 1);
        Due.is("the first two are not in the way", c.way(0, 1, false), 2);
        // all but a last point: shut in by two walls that come to the corner of the board
        Layerboard e = new Layerboard();
        e.box(0, 0, 1, 10, 10, 1, 1);
        e.box(0, 0, 1, 40, 40, 1, 1);
        e.box(0, 0, 1, 5, 5, 20, 1);
        e.box(0, 0, 1, 5, 20, 20, 1);
        e.box(0, 0, 1, 5, 5, 1, 16);
        wayIs("out by the one side that is left", e, 0, 1, 1, 60);
        e.box(0, 0, 1, 24, 6, 1, 14);
        wayIs("shut in", e, 0, 1, NONE, NONE);
    }

    private static void bends() {
        Layerboard b = new Layerboard();
        b.box(0, 0, 1, 10, 10, 1, 1);
        b.box(0, 0, 1, 20, 10, 1, 1);
        b.box(0, 0, 1, 20, 20, 1, 1);
        wayIs("straight", b, 0, 1, 0, 10);
        wayIs("once", b, 0, 2, 1, 20);
        b.box(0, 0, 1, 15, 10, 1, 2);
        wayIs("twice: down, and not up again", b, 0, 1, 2, 12);
        b.box(0, 0, 1, 15, 0, 1, 10);
        wayIs("over it", b, 0, 1, 2, 14);
        b.box(0, 0, 1, 8, 14, 30, 1);
        b.box(0, 0, 1, 10, 11, 6, 1);
        wayIs("round two ends", b, 0, 2, 2, 26);
        // out of a room by a gap in its upper wall: to the left, up, to the right, down
        Layerboard c = new Layerboard();
        c.box(0, 0, 1, 10, 10, 1, 1);
        c.box(0, 0, 1, 40, 10, 1, 1);
        c.box(0, 0, 1, 5, 5, 1, 16);
        c.box(0, 0, 1, 24, 5, 1, 16);
        c.box(0, 0, 1, 5, 5, 20, 1);
        c.box(0, 0, 1, 5, 20, 2, 1);
        c.box(0, 0, 1, 8, 20, 17, 1);
        wayIs("three bends", c, 0, 1, 3, 3 + 11 + 33 + 11);
        c.box(0, 0, 1, 7, 21, 40, 1);
        wayIs("the gap is shut", c, 0, 1, NONE, NONE);
    }

    private static void neitherVisible() {
        Layerboard b = new Layerboard();
        b.box(0, 0, 1, 5, 5, 4, 4);
        b.box(0, 1, 1, 20, 5, 4, 4);
        b.show(0, 0, false);
        wayIs("the first one is not", b, 0, 1, 0, 15);
        b.show(0, 1, false);
        wayIs("neither is", b, 0, 1, 0, 15);
        wayIs("one and itself", b, 1, 1, 0, 0);
        b.box(0, 2, 1, 10, 5, 1, 1);
        wayIs("a third one that is", b, 0, 1, 2, 17);
    }

    private static void noSteps() {
        Layerboard b = new Layerboard();
        b.box(0, 0, 1, 5, 5, 4, 4);
        b.diamond(0, 1, 1, 8, 8, 3);
        Due.is("no bends", b.way(0, 0, false), 0);
        Due.is("no steps", b.way(0, 0, true), 0);
        Due.is("from one to another that begins there, bends", b.way(0, 1, false), 0);
        Due.is("from one to another that begins there, steps", b.way(1, 0, true), 0);
        b.box(0, 2, 1, 6, 4, 1, 9);
        Due.is("what is beside does not count", b.way(0, 1, true), 0);
    }

    private static void fewestBendsFirst() {
        Layerboard b = new Layerboard();
        b.box(0, 0, 1, 0, 0, 1, 1);
        b.box(0, 0, 1, 10, 10, 1, 1);
        b.box(0, 0, 1, 0, 5, 5, 1);
        b.box(0, 0, 1, 6, 5, 40, 1);
        wayIs("through the gap at x 5", b, 0, 1, 2, 20);
        b.box(0, 0, 1, 5, 2, 1, 1);
        // by 20 steps with four bends it would be nearer than around the long wall, with two
        wayIs("around is longer, with fewer bends", b, 0, 1, 2, 92);
        Layerboard c = new Layerboard();
        c.box(0, 0, 1, 10, 10, 1, 1);
        c.box(0, 0, 1, 20, 10, 1, 1);
        c.box(0, 0, 1, 15, 8, 1, 10);
        // with two bends: 3 below and back, or 8 above and back
        wayIs("of two ways with two bends the shorter one", c, 0, 1, 2, 16);
        c.box(0, 0, 1, 12, 0, 1, 8);
        wayIs("the same", c, 0, 1, 2, 26);
    }

    /**
     * From (5, 1) to (1, 5) there are two kinds of ways with three bends: up, to the left, up, to the left by 8
     * steps, and to the right, up, to the left, down around all, by 22. The board is held mirrored as well.
     */
    private static void thenFewestSteps() {
        int[][] boxes = {{5, 1, 1, 1}, {1, 5, 1, 1}, {1, 3, 1, 2}, {6, 6, 1, 3}, {0, 2, 4, 1}, {4, 6, 4, 1}, {3, 5, 3, 1}};
        Layerboard b = new Layerboard();
        Layerboard mirrored = new Layerboard();
        for (int[] r : boxes) {
            b.box(0, 0, 1, r[0], r[1], r[2], r[3]);
            mirrored.box(0, 0, 1, r[1], r[0], r[3], r[2]);
        }
        wayIs("the short one", b, 0, 1, 3, 8);
        wayIs("the short one, mirrored", mirrored, 0, 1, 3, 8);
    }

    // ---- 8 texts

    private static void eightySigns() {
        Layerboard b = new Layerboard();
        Due.is("empty at first", b.wipe(), 0);
        Due.is("its fault", b.fault(), 0);
        for (int i = 1; i <= 80; i++) {
            Due.is("how many", b.type(33 + i), i);
        }
        Due.fails("one more", Due.STATE, () -> b.type(33));
        Due.is("80", b.wipe(), 80);
        Due.is("again", b.type(33), 1);
    }

    private static void signs() {
        Layerboard b = new Layerboard();
        Due.is("32", b.type(32), 1);
        Due.is("126", b.type(126), 2);
        for (int wrong : new int[] {31, 127, 0, -1, 128, 65536 + 40}) {
            Due.fails("sign " + wrong, Due.ARGUMENT, () -> b.type(wrong));
        }
        Due.is("two", b.wipe(), 2);
    }

    private static void tapeStays() {
        Layerboard b = new Layerboard();
        Due.types(b, "(0,0)(4,0)(0,4)");
        b.trace(0, 0, 1);
        Due.is("behind trace", b.fault(), NONE);
        b.undo(0);
        Due.is("behind undo", b.trace(0, 0, 1), 1);
        b.type('(');
        Due.is("a sign more is put behind", b.fault(), 16);
        Due.fails("no corners", Due.STATE, () -> b.trace(0, 0, 1));
        Due.is("wiped", b.wipe(), 16);
        Due.is("empty", b.fault(), 0);
    }

    private static void faultIs(String text, int want) {
        Layerboard b = new Layerboard();
        Due.types(b, text);
        Due.is("fault of " + text, b.fault(), want);
    }

    private static void numbers() {
        for (int n = 0; n < 100; n++) {
            faultIs("(1,1)(" + n + "," + n + ")(2,2)", n <= 60 ? NONE : 7);
            faultIs("(1,1)(1," + n + ")(2,2)", n <= 60 ? NONE : 9);
            if (n < 10) {
                faultIs("(1,1)(0" + n + ",1)(2,2)", 7);
                faultIs("(1,1)(1,0" + n + ")(2,2)", 9);
            } else {
                faultIs("(1,1)(" + n + "0,1)(2,2)", n <= 60 ? 8 : 7);
                faultIs("(1,1)(1," + n + "0)(2,2)", n <= 60 ? 10 : 9);
            }
        }
        faultIs("(,1)(1,1)(1,1)", 1);
        faultIs("(1,)(1,1)(1,1)", 3);
        faultIs("(-1,1)(1,1)(1,1)", 1);
        faultIs("(+1,1)(1,1)(1,1)", 1);
    }

    private static void threeToEight() {
        for (int many = 0; many <= 10; many++) {
            faultIs("(1,1)".repeat(many), many < 3 ? 5 * many : many <= 8 ? NONE : 40);
        }
        faultIs("(60,60)".repeat(8), NONE);
        faultIs("(60,60)".repeat(8) + " ".repeat(24), 56);
    }

    private static void firstWrongSign() {
        String good = "(12,3)(4,56)(7,8)";
        for (int i = 0; i < good.length(); i++) {
            for (char sign : new char[] {' ', 'x', ';', '~', '/', ':', '*', '-'}) {
                faultIs(good.substring(0, i) + sign + good.substring(i + 1), i);
            }
        }
        faultIs("((1,1)", 1);
        faultIs(")", 0);
        faultIs("1", 0);
        faultIs(",", 0);
        faultIs("(1(", 2);
        faultIs("(1)", 2);
        faultIs("(1,1,1)", 4);
        faultIs("(1,1(", 4);
        faultIs("(1,1))", 5);
        faultIs("(1,1),(1,1)(1,1)", 5);
        faultIs("(1,1)1", 5);
        faultIs("(61,1)(x", 2);
        faultIs("(1,1)(1,1)(1,1)(1,1)(1,1)(1,1)(1,1)(1,1)(1,1)", 40);
    }

    private static void tooShort() {
        String good = "(12,3)(4,56)(7,8)(0,60)";
        for (int i = 0; i < good.length(); i++) {
            faultIs(good.substring(0, i), i == 17 ? NONE : i);
        }
        faultIs("", 0);
        faultIs("(6", 2);
        faultIs("(0", 2);
    }

    private static void noFault() {
        faultIs("(0,0)(0,0)(0,0)", NONE);
        faultIs("(10,20)(30,40)(50,60)", NONE);
        faultIs("(0,0)(3,1)(0,5)(59,7)", NONE);
        faultIs("(9,9)(59,59)(60,60)(0,0)(1,1)(10,10)(19,19)(20,20)", NONE);
    }

    private static void edgesDoNotCount() {
        for (String text : new String[] {"(0,0)(3,1)(0,5)", "(0,0)(0,0)(0,0)", "(1,2)(60,59)(7,7)(7,7)"}) {
            Layerboard b = new Layerboard();
            Due.types(b, text);
            Due.is("edges that may not be are no fault", b.fault(), NONE);
            Due.fails("but are not drawn", Due.STATE, () -> b.trace(0, 0, 1));
        }
    }

    private static void papers() {
        Layerboard b = new Layerboard();
        Due.draws(b, 0, 9, 10, 9, 10, 59, 10, 60, 0, 60);
        Due.paperIs("numbers of one digit, and of two", b, 0, "(0,9)(10,9)(10,59)(10,60)(0,60)");
        b.box(0, 0, 1, 0, 0, 1, 1);
        b.join(0, 0, 1, 0);
        Due.paperIs("of two polygons", b, 2, "(0,0)(1,0)(1,1)(0,1);(0,9)(10,9)(10,59)(10,60)(0,60)");
        Due.is("its length", b.paper(2), 52);
        b.join(0, 0, 2, 2);
        Due.is("of four", b.paper(3), 105);
        Due.is("no ; at the end", b.out(104), ')');
        Due.is("the longest ahead of it", b.out(52), ';');
    }

    private static void toldLast() {
        Layerboard b = new Layerboard();
        Due.fails("none is told", Due.INDEX, () -> b.out(0));
        b.box(0, 0, 1, 10, 10, 10, 10);
        b.box(0, 0, 1, 0, 0, 1, 1);
        Due.is("the first one", b.paper(0), 28);
        Due.is("the second one", b.paper(1), 20);
        Due.is("the second one's sign", b.out(1), '0');
        Due.fails("the first one's end", Due.INDEX, () -> b.out(20));
        b.move(0, 1, 5, 5, true);
        Due.is("as it was when it was told", b.out(1), '0');
        b.undo(0);
        b.erase(0, 1);
        Due.is("though it is erased", b.out(19), ')');
        Due.fails("no such shape", Due.INDEX, () -> b.paper(1));
        Due.is("it stays", b.out(19), ')');
    }

    private interface Look {
        void at(Layerboard b);
    }

    /** Boards with joined, turned, tied and gathered shapes, with keys that are fractions, some of it taken back. */
    private static void allBoards(Look look) {
        for (int seed = 0; seed < 20; seed++) {
            Layerboard b = new Layerboard();
            b.sample(0, 977 * seed, 6);
            b.sample(1, 977 * seed + 1, 6);
            for (int i = 0; i < 8; i++) {
                b.join(2, i % 4, i, 11 - i);
                b.raise(2, i, i % 4);
                b.tie(2, i, i + 1, i % 3);
            }
            b.mirror(0, 3, true);
            b.join(0, 3, 12, 15);
            b.gather(0, 0b0101);
            b.gather(1, 0b0011);
            lookTwice(look, b);
            b.erase(1, 5);
            lookTwice(look, b);
            b.undo(1);
            b.undo(1);
            b.undo(2);
            b.undo(0);
            lookTwice(look, b);
        }
    }

    private static void lookTwice(Look look, Layerboard b) {
        look.at(b);
        Due.is("sound", b.isSound(), true);
    }

    private static void cornersAndTables(Layerboard b) {
        for (int place = 0; place < Long.bitCount(b.shapes()); place++) {
            int shape = b.shapeAt(place);
            int polygons = b.of(shape, 5);
            Due.is("the table's bits", b.of(shape, 6) >> (1 << polygons), 0);
            for (int p = 0; p < polygons; p++) {
                int many = b.corners(shape, p);
                for (int c = 0; c < many; c++) {
                    int x = b.corner(shape, p, c, false);
                    int y = b.corner(shape, p, c, true);
                    int wide = Math.abs(b.corner(shape, p, (c + 1) % many, false) - x);
                    int high = Math.abs(b.corner(shape, p, (c + 1) % many, true) - y);
                    Due.is("a corner on the board", x >= 0 && x <= 60 && y >= 0 && y <= 60, true);
                    Due.is("an edge as it may go", wide + high > 0 && (wide * high == 0 || wide == high
                            || wide == 2 * high || high == 2 * wide), true);
                }
            }
        }
    }

    private static void keysOfLayers(Layerboard b) {
        for (int place = 0; place < Long.bitCount(b.shapes()); place++) {
            int shape = b.shapeAt(place);
            Due.is("positive", b.of(shape, 7) > 0, true);
            Due.is("a denominator to 50", b.of(shape, 8) > 0 && b.of(shape, 8) <= 50, true);
            int before = place == 0 ? shape : b.shapeAt(place - 1);
            if (before != shape && b.of(before, 0) == b.of(shape, 0)) {
                Due.is("unlike", b.of(before, 7) * b.of(shape, 8) < b.of(shape, 7) * b.of(before, 8), true);
            }
        }
    }

    private static void leadersAreThere(Layerboard b) {
        for (int place = 0; place < Long.bitCount(b.shapes()); place++) {
            int at = b.shapeAt(place);
            for (int i = 0; i < 60 && at != NONE; i++) {
                Due.is("it is there", b.shapes() >> at & 1, 1);
                at = b.of(at, 2);
            }
            Due.is("its leaders come to an end", at, NONE);
        }
    }

    /** Scattering the outermost group of a shape comes to an end, and each group is scattered once. */
    private static void groupsAreApart(Layerboard b) {
        long scattered = 0;
        int many = 0;
        for (int place = 0; place < Long.bitCount(b.shapes()); place++) {
            int shape = b.shapeAt(place);
            while (b.of(shape, 4) != NONE && many < 5) {
                int group = b.of(shape, 4);
                Due.is("not yet scattered", scattered >> group & 1, 0);
                Due.is("a group, no shape", b.shapes() >> group & 1, 0);
                scattered |= 1L << group;
                b.scatter(2, shape);
                many++;
            }
        }
        for (int i = 0; i < many; i++) {
            b.undo(2);
        }
        Due.is("two groups at most", many <= 2, true);
    }

    private static long units(Layerboard b, int how, int one, int other) {
        return 14400L / b.areaOf(how, one, other, true) * b.areaOf(how, one, other, false);
    }

    private static void areasOfNeighbours(Layerboard b) {
        for (int place = 1; place < Long.bitCount(b.shapes()); place++) {
            int one = b.shapeAt(place - 1);
            int other = b.shapeAt(place);
            long area = 14400L / b.area(one, true) * b.area(one, false);
            long next = 14400L / b.area(other, true) * b.area(other, false);
            Due.is("together and in common", units(b, 0, one, other) + units(b, 1, one, other), area + next);
            Due.is("less and in common", units(b, 2, one, other) + units(b, 1, one, other), area);
        }
    }

    private AreaSentences() {
    }
}
