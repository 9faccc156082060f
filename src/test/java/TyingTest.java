/** Promises 18 to 27: ties, groups, guides, joining and taking back. */
public final class TyingTest {
    private static Layerboard boxes(int many) {
        Layerboard b = new Layerboard();
        for (int i = 0; i < many; i++) {
            b.box(i % 3, 0, 1 + i % 9, 6 * i, 3 * i, 4, 4);
        }
        return b;
    }

    private static void promise18Tie() {
        Layerboard b = boxes(4);
        Due.is("18 a leader without leaders", b.tie(0, 1, 0, 2), 0);
        Due.is("18 the leader", b.of(1, 2), 0);
        Due.is("18 the kind", b.of(1, 3), 2);
        Due.is("18 one over the leader", b.tie(0, 2, 1, 0), 1);
        Due.is("18 two over the leader", b.tie(0, 3, 2, 1), 2);
        Due.fails("18 a ring of four", Due.STATE, () -> b.tie(0, 0, 3, 0));
        Due.fails("18 a ring of two", Due.STATE, () -> b.tie(0, 2, 3, 0));
        Due.fails("18 both the same", Due.STATE, () -> b.tie(0, 0, 0, 0));
        Due.is("18 nothing tied", b.of(0, 2), Layerboard.NONE);
        Due.is("18 in place of the leader", b.tie(0, 3, 0, 0), 0);
        Due.is("18 the new leader", b.of(3, 2), 0);
        Due.is("18 the new kind", b.of(3, 3), 0);
        Due.is("18 no ring any more", b.tie(0, 2, 3, 0), 1);
        Due.fails("18 hand", Due.INDEX, () -> b.tie(3, 0, 1, 3));
        Due.fails("18 shape", Due.INDEX, () -> b.tie(0, 5, 1, 3));
        Due.fails("18 leader", Due.INDEX, () -> b.tie(0, 0, -1, 3));
        Due.fails("18 kind before a ring", Due.ARGUMENT, () -> b.tie(0, 0, 0, 3));
        Due.fails("18 kind", Due.ARGUMENT, () -> b.tie(0, 1, 0, -1));
        Due.fillTo(b, 60);
        Due.fails("18 no more changes", Due.STATE, () -> b.tie(0, 1, 0, 0));
    }

    private static void promise19Untie() {
        Layerboard b = boxes(3);
        b.tie(0, 1, 2, 1);
        Due.is("19 its leader before", b.untie(1, 1), 2);
        Due.is("19 no leader", b.of(1, 2), Layerboard.NONE);
        Due.is("19 no kind", b.of(1, 3), Layerboard.NONE);
        Due.fails("19 none to untie", Due.STATE, () -> b.untie(1, 1));
        Due.is("19 it follows no more", b.move(0, 2, 1, 1, true), 1);
        Due.fails("19 hand", Due.INDEX, () -> b.untie(3, 1));
        Due.fails("19 shape", Due.INDEX, () -> b.untie(0, 3));
        b.tie(0, 1, 2, 1);
        Due.fillTo(b, 60);
        Due.fails("19 no more changes", Due.STATE, () -> b.untie(0, 1));
        Due.is("19 still tied", b.of(1, 2), 2);
    }

    private static void promise20Ring() {
        Layerboard b = boxes(5);
        b.tie(0, 1, 0, 0);
        b.tie(0, 2, 1, 0);
        b.tie(0, 0, 4, 0);
        Due.is("20 a ring of three", b.ring(0, 2, Layerboard.NONE), 3);
        Due.is("20 the shape", b.ring(0, 2, 0), 0);
        Due.is("20 its leader to be", b.ring(0, 2, 1), 2);
        Due.is("20 the leader of that", b.ring(0, 2, 2), 1);
        Due.fails("20 no further", Due.INDEX, () -> b.ring(0, 2, 3));
        Due.fails("20 place -2", Due.INDEX, () -> b.ring(0, 2, -2));
        Due.is("20 a ring of four", b.ring(4, 2, -1), 4);
        Due.is("20 the last one", b.ring(4, 2, 3), 0);
        Due.is("20 no ring", b.ring(3, 2, -1), 0);
        Due.is("20 no ring, one that is tied so", b.ring(2, 1, -1), 0);
        Due.fails("20 no ring, no place", Due.INDEX, () -> b.ring(3, 2, 0));
        Due.is("20 both the same", b.ring(3, 3, -1), 1);
        Due.is("20 both the same, it", b.ring(3, 3, 0), 3);
        Due.fails("20 both the same, no more", Due.INDEX, () -> b.ring(3, 3, 1));
        Due.is("20 both the same, with a leader", b.ring(1, 1, -1), 1);
        Due.fails("20 shape", Due.INDEX, () -> b.ring(5, 0, -1));
        Due.fails("20 leader", Due.INDEX, () -> b.ring(0, 60, -1));
        Due.is("20 no change", b.changes(), 8);
    }

    private static void promise21Gather() {
        Layerboard b = boxes(6);
        Due.is("21 number", b.gather(1, 0b011), 6);
        Due.is("21 outermost", b.of(0, 4), 6);
        Due.is("21 not gathered", b.of(2, 4), Layerboard.NONE);
        Due.fails("21 one group alone", Due.STATE, () -> b.gather(1, 0b011));
        Due.fails("21 one shape alone", Due.STATE, () -> b.gather(1, 0b100));
        Due.fails("21 none", Due.STATE, () -> b.gather(1, 0));
        Due.is("21 a group and a shape", b.gather(1, 0b111), 7);
        Due.is("21 outermost of all", b.of(1, 4), 7);
        Due.is("21 by one of its shapes", b.gather(1, 0b001001), 8);
        Due.is("21 outermost of those not named", b.of(2, 4), 8);
        Due.fails("21 hand", Due.INDEX, () -> b.gather(3, 0b110000));
        Due.fails("21 not there", Due.INDEX, () -> b.gather(0, 1L << 6 | 1));
        Due.fails("21 bit 60", Due.INDEX, () -> b.gather(0, 1L << 60 | 0b110000));
        Due.fails("21 bit 63", Due.INDEX, () -> b.gather(0, Long.MIN_VALUE | 0b110000));
        b.erase(0, 5);
        Due.fails("21 erased", Due.INDEX, () -> b.gather(0, 0b110000));
        Due.fillTo(b, 60);
        Due.fails("21 no more changes", Due.STATE, () -> b.gather(0, 0b010001));
    }

    private static void promise22Scatter() {
        Layerboard b = boxes(6);
        b.gather(0, 0b000011);
        b.gather(0, 0b001100);
        b.gather(0, 0b011101);
        Due.is("22 members", b.scatter(1, 0), 3);
        Due.is("22 the inner group is outermost", b.of(0, 4), 6);
        Due.is("22 the inner group is outermost", b.of(3, 4), 7);
        Due.is("22 a shape of none", b.of(4, 4), Layerboard.NONE);
        Due.fails("22 of none", Due.STATE, () -> b.scatter(1, 4));
        b.gather(0, 0b110001);
        b.erase(0, 0);
        b.erase(0, 1);
        b.erase(0, 5);
        Due.is("22 a group without shapes counts, an erased shape does not", b.scatter(1, 4), 2);
        Due.is("22 members", b.scatter(1, 2), 2);
        Due.fails("22 hand", Due.INDEX, () -> b.scatter(3, 2));
        Due.fails("22 shape", Due.INDEX, () -> b.scatter(0, 0));
        b.gather(0, 0b001100);
        Due.fillTo(b, 60);
        Due.fails("22 no more changes", Due.STATE, () -> b.scatter(0, 2));
        Due.is("22 still gathered", b.of(2, 4), 16);
    }

    private static void promise23Spread() {
        Layerboard b = new Layerboard();
        b.box(0, 0, 1, 20, 0, 5, 5);
        b.box(0, 0, 1, 0, 10, 5, 5);
        b.box(0, 0, 1, 12, 20, 2, 2);
        b.box(0, 0, 1, 6, 30, 3, 3);
        b.box(0, 0, 1, 40, 40, 3, 3);
        b.tie(0, 4, 2, 0);
        Due.fails("23 one alone", Due.STATE, () -> b.spread(0, 0));
        b.gather(0, 0b1111);
        // from 5 to 20 are 15, less 3 and 2 are 10: gaps of 4, 3 and 3
        Due.is("23 how many moved", b.spread(1, 2), 2);
        Due.is("23 the first stays", b.of(1, 10), 0);
        Due.is("23 the first gap is 1 more", b.of(3, 10), 9);
        Due.is("23 the second gap", b.of(2, 10), 15);
        Due.is("23 the last stays", b.of(0, 10), 20);
        Due.is("23 not up", b.of(3, 11), 30);
        Due.is("23 nothing follows", b.of(4, 10), 40);
        Due.is("23 again, none moves", b.spread(1, 2), 0);
        Due.fails("23 hand", Due.INDEX, () -> b.spread(3, 0));
        Due.fails("23 shape", Due.INDEX, () -> b.spread(0, 5));
        Due.fillTo(b, 60);
        Due.fails("23 no more changes", Due.STATE, () -> b.spread(0, 0));
    }

    private static void promise23Edges() {
        Layerboard b = new Layerboard();
        b.box(0, 0, 1, 0, 0, 10, 5);
        b.box(0, 0, 1, 3, 0, 5, 5);
        b.box(0, 0, 1, 15, 0, 5, 5);
        b.gather(0, 0b111);
        Due.is("23 gaps of 0", b.spread(0, 0), 1);
        Due.is("23 side by side", b.of(1, 10), 10);
        b.move(0, 2, -1, 0, true);
        Due.fails("23 gaps below 0", Due.STATE, () -> b.spread(0, 0));
        Due.is("23 nothing moved", b.of(1, 10), 10);
        Layerboard c = new Layerboard();
        c.box(0, 0, 1, 10, 0, 1, 5);
        c.box(0, 0, 1, 0, 0, 2, 5);
        c.box(0, 0, 1, 10, 0, 4, 5);
        c.gather(0, 0b111);
        // of the two with the left 10, the one with the number 0 is in the middle
        Due.is("23 by numbers", c.spread(0, 0), 1);
        Due.is("23 the one of the lesser number moves", c.of(0, 10), 6);
        Due.is("23 the other one is the last", c.of(2, 10), 10);
        Layerboard d = boxes(2);
        d.gather(0, 0b11);
        Due.fails("23 two alone", Due.STATE, () -> d.spread(0, 0));
    }

    private static void promise24Guide() {
        Layerboard b = boxes(1);
        Due.is("24 first", b.guide(0, true, 0), 1);
        Due.is("24 level", b.guide(0, false, 0), 2);
        Due.fails("24 there is that one", Due.STATE, () -> b.guide(1, true, 0));
        Due.fails("24 there is that one", Due.STATE, () -> b.guide(1, false, 0));
        Due.fails("24 hand", Due.INDEX, () -> b.guide(3, true, 61));
        Due.fails("24 at", Due.ARGUMENT, () -> b.guide(0, true, 61));
        Due.fails("24 at", Due.ARGUMENT, () -> b.guide(0, false, -1));
        for (int i = 3; i <= 8; i++) {
            Due.is("24 more", b.guide(i % 3, i % 2 == 0, 63 - i), i);
        }
        Due.fails("24 a ninth", Due.STATE, () -> b.guide(0, true, 30));
        Due.is("24 one taken back", b.undo(2), 8);
        Due.is("24 another one", b.guide(0, true, 30), 8);
        Layerboard c = Due.fillTo(boxes(1), 60);
        Due.fails("24 no more changes", Due.STATE, () -> c.guide(0, true, 30));
    }

    private static int snapped(int left, int wide, int... uprights) {
        Layerboard b = new Layerboard();
        b.box(0, 0, 1, left, 0, wide, 1);
        for (int x : uprights) {
            b.guide(0, true, x);
        }
        b.snap(0, 0);
        return b.of(0, 10);
    }

    private static void promise25Snap() {
        Due.is("25 the left", snapped(10, 20, 12), 12);
        Due.is("25 the right", snapped(10, 20, 33), 13);
        Due.is("25 the middle", snapped(10, 20, 22), 12);
        Due.is("25 no middle that is not whole", snapped(10, 21, 20), 10);
        Due.is("25 5 is not above 5", snapped(10, 20, 5), 5);
        Due.is("25 6 is", snapped(10, 20, 4), 10);
        Due.is("25 the least", snapped(10, 20, 13, 29), 9);
        Due.is("25 of the same the left", snapped(10, 20, 32, 22, 12), 12);
        Due.is("25 of the same the left, the other way", snapped(10, 20, 32, 22, 8), 8);
        Due.is("25 of the same the middle", snapped(10, 20, 32, 18), 8);
        Due.is("25 of the left the lesser x", snapped(10, 20, 12, 8), 8);
        Due.is("25 of the right the lesser x", snapped(10, 20, 32, 28), 8);
        Due.is("25 left and right of a narrow one", snapped(10, 4, 13), 11);
        Layerboard b = boxes(3);
        b.guide(0, true, 2);
        b.guide(0, false, 60);
        b.tie(0, 2, 0, 0);
        b.gather(0, 0b011);
        // the frame is 0 to 10 across and 0 to 7 up, no middle up
        Due.is("25 a group, by its frame", b.snap(0, 1), 2);
        Due.is("25 one of it", b.of(0, 10), 2);
        Due.is("25 the other one", b.of(1, 10), 8);
        Due.is("25 what follows", b.of(2, 10), 14);
        Due.is("25 not again", b.snap(0, 0), 0);
        b.guide(0, false, 12);
        Due.is("25 both ways", b.snap(0, 0), 5);
        Due.is("25 upper side", b.of(1, 13), 12);
        Due.is("25 what follows, by its own frame", b.snap(0, 2), 1);
        Due.is("25 its leader stays", b.of(0, 10), 2);
    }

    private static void promise25Wrong() {
        Layerboard b = new Layerboard();
        b.box(0, 0, 1, 10, 0, 4, 4);
        b.box(0, 0, 1, 54, 0, 4, 4);
        b.tie(0, 1, 0, 0);
        b.guide(0, true, 17);
        b.guide(0, false, 5);
        Due.fails("25 what follows would leave", Due.STATE, () -> b.snap(0, 0));
        Due.is("25 nothing moved", b.of(0, 11), 0);
        Due.fails("25 hand", Due.INDEX, () -> b.snap(3, 0));
        Due.fails("25 shape", Due.INDEX, () -> b.snap(0, 2));
        b.untie(0, 1);
        Due.is("25 across and up together", b.snap(0, 0), 4);
        Due.fillTo(b, 60);
        Due.fails("25 no more changes", Due.STATE, () -> b.snap(0, 0));
    }

    private static void promise26Join() {
        Layerboard b = new Layerboard();
        b.box(0, 2, 5, 0, 0, 10, 10);
        b.box(0, 3, 6, 5, 5, 10, 10);
        int[] tables = {0b1110, 0b1000, 0b0010, 0b0110};
        int[] areas = {175, 25, 75, 150};
        for (int how = 0; how < 4; how++) {
            Due.is("26 number", b.join(1, how, 0, 1), 2 + how);
            Due.is("26 table", b.of(2 + how, 6), tables[how]);
            Due.is("26 area", b.area(2 + how, false), areas[how]);
            Due.is("26 layer of the first", b.of(2 + how, 0), 2);
            Due.is("26 colour of the first", b.of(2 + how, 1), 5);
            Due.is("26 to the top", b.of(2 + how, 7), 2 + how);
            Due.is("26 hand", b.of(2 + how, 9), 1);
            Due.paperIs("26 polygons", b, 2 + how, "(0,0)(10,0)(10,10)(0,10);(5,5)(15,5)(15,15)(5,15)");
        }
        Due.is("26 both stay", b.shapes(), 63);
        Due.is("26 with itself", b.join(0, 3, 0, 0), 6);
        Due.is("26 holds nothing", b.area(6, false), 0);
        Due.is("26 table", b.of(6, 6), 0b0110);
        Due.is("26 four polygons", b.join(0, 2, 4, 3), 7);
        // 75 without what both have
        Due.is("26 table of four", b.of(7, 6), 0b0000_0010_0010_0010);
        Due.is("26 area of four", b.area(7, false), 75);
        Due.fails("26 five polygons", Due.STATE, () -> b.join(0, 0, 7, 0));
        Due.fails("26 five polygons", Due.STATE, () -> b.join(0, 0, 0, 7));
        Due.fails("26 hand", Due.INDEX, () -> b.join(3, 4, 0, 0));
        Due.fails("26 shape", Due.INDEX, () -> b.join(0, 4, 8, 0));
        Due.fails("26 other", Due.INDEX, () -> b.join(0, 4, 0, 8));
        Due.fails("26 how", Due.ARGUMENT, () -> b.join(0, 4, 7, 7));
        Due.fails("26 how", Due.ARGUMENT, () -> b.join(0, -1, 0, 1));
        b.move(0, 0, 20, 20, true);
        Due.is("26 has corners of its own", b.of(2, 12), 15);
        Due.fillTo(b, 60);
        Due.fails("26 no more changes", Due.STATE, () -> b.join(0, 0, 0, 1));
    }

    private static void promise27Undo() {
        Layerboard b = boxes(4);
        Due.fails("27 hand", Due.INDEX, () -> b.undo(3));
        Due.fails("27 hand", Due.INDEX, () -> b.undo(-1));
        Due.is("27 the latest of the hand", b.undo(1), 1);
        Due.is("27 it stands no more", b.stands(1), false);
        Due.is("27 no change itself", b.changes(), 4);
        Due.fails("27 none of it stands", Due.STATE, () -> b.undo(1));
        Due.is("27 shapes", b.shapes(), 0b1101);
        Due.is("27 keys are made anew", b.of(2, 7), 2);
        Due.is("27 the latest of the hand", b.undo(0), 3);
        Due.is("27 the next one", b.undo(0), 0);
        Due.is("27 shapes", b.shapes(), 0b0100);
        Due.is("27 keys are made anew", b.of(2, 7), 1);
        Due.is("27 numbers go on", b.box(0, 0, 1, 0, 0, 1, 1), 4);
    }

    /** The board is what all other changes make, one by one, from the empty one. */
    private static void promise27Anew() {
        Layerboard b = new Layerboard();
        b.box(0, 0, 1, 0, 0, 4, 8);
        b.move(1, 0, 10, 1, true);
        b.grow(2, 0, 2);
        b.box(0, 0, 2, 30, 30, 4, 4);
        b.tie(1, 3, 0, 1);
        b.move(2, 0, 3, 5, true);
        Due.is("27 moved with its leader", b.of(3, 10), 33);
        Due.is("27 undo of the tie", b.undo(1), 4);
        Due.is("27 not moved with it", b.of(3, 10), 30);
        Due.is("27 no leader", b.of(3, 2), Layerboard.NONE);
        Due.is("27 undo of the first move", b.undo(1), 1);
        Due.is("27 left", b.of(0, 10), 3);
        Due.is("27 lower", b.of(0, 11), 5);
        Due.is("27 right", b.of(0, 12), 11);
        Due.is("27 upper", b.of(0, 13), 21);
    }

    private static void promise27Throws() {
        Layerboard b = new Layerboard();
        b.box(0, 0, 1, 0, 0, 4, 4);
        b.move(1, 0, 30, 30, true);
        b.move(2, 0, -20, -20, true);
        b.paint(2, 0, 7);
        Due.is("27 undo of the move", b.undo(1), 1);
        Due.is("27 a move that can not be done does nothing", b.of(0, 10), 0);
        Due.is("27 but stands", b.stands(2), true);
        Due.is("27 later changes are done", b.of(0, 1), 7);
        Due.is("27 undo of what does nothing", b.undo(2), 3);
        Due.is("27 undo of what does nothing", b.undo(2), 2);
        Due.is("27 undo of the shape", b.undo(0), 0);
        Due.is("27 empty", b.shapes(), 0);
        Layerboard c = new Layerboard();
        c.box(0, 0, 1, 0, 0, 4, 4);
        c.box(1, 0, 2, 10, 0, 4, 4);
        c.box(2, 0, 2, 20, 0, 4, 4);
        c.gather(2, 0b11);
        c.tie(2, 2, 0, 0);
        c.join(2, 0, 0, 1);
        c.show(2, 0, false);
        Due.is("27 undo of a shape that others need", c.undo(0), 0);
        Due.is("27 shapes that are left", c.shapes(), 0b110);
        Due.is("27 no group of one", c.of(1, 4), Layerboard.NONE);
        Due.is("27 no leader that is not there", c.of(2, 2), Layerboard.NONE);
        Due.is("27 a layer that is hidden stays so", c.hit(22, 2), Layerboard.NONE);
        Due.is("27 undo of it", c.undo(2), 6);
        Due.is("27 visible again", c.hit(22, 2), 1);
    }

    /** Polygons are drawn again with the corners that the pen and the tape had, not with those of now. */
    private static void promise27Corners() {
        Layerboard b = new Layerboard();
        Due.pens(b, 0, 0, 5, 0, 0, 5);
        b.draw(0, 0, 1);
        Due.types(b, "(1,1)(5,1)(1,5)");
        b.trace(0, 0, 1);
        b.box(1, 0, 1, 0, 0, 1, 1);
        b.wipe();
        b.pen(60, 60);
        b.erase(1, 0);
        Due.is("27 erased", b.shapes(), 0b110);
        Due.is("27 undo of erasing", b.undo(1), 3);
        Due.paperIs("27 as the pen had it", b, 0, "(0,0)(5,0)(0,5)");
        Due.paperIs("27 as the tape had it", b, 1, "(1,1)(5,1)(1,5)");
        Due.is("27 the pen stays", b.lift(), 1);
        Due.is("27 the tape stays", b.wipe(), 0);
        Due.fillTo(b, 60);
        Due.is("27 when no more changes can be made", b.undo(0), 1);
        Due.fails("27 it makes no room", Due.STATE, () -> b.box(0, 0, 1, 0, 0, 1, 1));
    }

    public static void main(String[] args) {
        promise18Tie();
        promise19Untie();
        promise20Ring();
        promise21Gather();
        promise22Scatter();
        promise23Spread();
        promise23Edges();
        promise24Guide();
        promise25Snap();
        promise25Wrong();
        promise26Join();
        promise27Undo();
        promise27Anew();
        promise27Throws();
        promise27Corners();
        Due.finish("TyingTest");
    }
}
