/** Promises 1 to 9: the new object and drawing. */
public final class DrawingTest {
    private static void promise01New() {
        Layerboard b = new Layerboard();
        Due.is("1 shapes", b.shapes(), 0);
        Due.is("1 changes", b.changes(), 0);
        Due.is("1 pen", b.lift(), 0);
        Due.is("1 tape", b.wipe(), 0);
        Due.is("1 fault of an empty tape", b.fault(), 0);
        Due.fails("1 out", Due.INDEX, () -> b.out(0));
        Due.is("1 hit", b.hit(60, 60), Layerboard.NONE);
        Due.is("1 field", b.field(59, 59), 3600);
        Due.is("1 layers are visible", b.box(0, 3, 1, 0, 0, 5, 5), 0);
        Due.is("1 layers are visible, hit", b.hit(1, 1), 0);
        Due.is("1 sound", b.isSound(), true);
        Due.is("1 another object is empty", new Layerboard().shapes(), 0);
        Due.is("NONE", Layerboard.NONE, -1);
    }

    private static void promise02Pen() {
        Layerboard b = new Layerboard();
        Due.is("2 first", b.pen(0, 60), 1);
        Due.is("2 second", b.pen(60, 0), 2);
        Due.fails("2 x -1", Due.ARGUMENT, () -> b.pen(-1, 0));
        Due.fails("2 x 61", Due.ARGUMENT, () -> b.pen(61, 0));
        Due.fails("2 y -1", Due.ARGUMENT, () -> b.pen(0, -1));
        Due.fails("2 y 61", Due.ARGUMENT, () -> b.pen(0, 61));
        Due.is("2 third", b.pen(60, 0), 3);
        for (int i = 4; i <= 8; i++) {
            Due.is("2 more", b.pen(i, i), i);
        }
        Due.fails("2 a ninth", Due.STATE, () -> b.pen(1, 1));
        Due.fails("2 a ninth that is none", Due.ARGUMENT, () -> b.pen(1, 61));
        Due.is("2 still eight", b.lift(), 8);
        Due.is("2 no change", b.changes(), 0);
    }

    private static void promise03Lift() {
        Layerboard b = new Layerboard();
        b.pen(1, 1);
        b.pen(2, 2);
        Due.is("3 lift", b.lift(), 2);
        Due.is("3 again", b.lift(), 0);
        Due.is("3 pen begins anew", b.pen(1, 1), 1);
    }

    private static void promise04Draw() {
        Layerboard b = new Layerboard();
        Due.pens(b, 0, 0, 20, 0, 0, 10);
        Due.is("4 number", b.draw(2, 3, 9), 0);
        Due.is("4 the pen has none then", b.lift(), 0);
        Due.paperIs("4 corners", b, 0, "(0,0)(20,0)(0,10)");
        int[] want = {3, 9, -1, -1, -1, 1, 2, 1, 1, 2, 0, 0, 20, 10};
        for (int i = 0; i < want.length; i++) {
            Due.is("4 of " + i, b.of(0, i), want[i]);
        }
        Due.is("4 edges cross", Due.draws(b, 0, 0, 10, 10, 10, 0, 0, 10), 1);
        Due.is("4 a corner twice", Due.draws(b, 10, 10, 20, 10, 20, 20, 10, 10, 10, 5, 5, 5), 2);
        Due.is("4 eight corners", Due.draws(b, 1, 0, 2, 0, 4, 1, 5, 3, 4, 5, 2, 6, 0, 5, 0, 2), 3);
        Due.is("4 a flat one", Due.draws(b, 0, 0, 5, 0, 9, 0), 4);
        Due.is("4 its area", b.area(4, false), 0);
    }

    private static void promise04Refuses() {
        Layerboard b = new Layerboard();
        int[][] none = {{}, {0, 0}, {0, 0, 5, 0}, {0, 0, 3, 1, 0, 5}, {0, 0, 0, 0, 5, 5}, {0, 0, 5, 0, 5, 5, 0, 0},
            {0, 0, 10, 0, 10, 3}, {0, 0, 4, 3, 4, 0}, {0, 0, 8, 2, 8, 0}};
        for (int[] points : none) {
            Due.pens(b, points);
            Due.fails("4 no corners", Due.STATE, () -> b.draw(0, 0, 1));
            Due.is("4 the pen stays", b.lift(), points.length / 2);
        }
        Due.pens(b, 0, 0, 3, 1, 0, 5);
        Due.fails("4 hand", Due.INDEX, () -> b.draw(3, 0, 0));
        Due.fails("4 hand", Due.INDEX, () -> b.draw(-1, 0, 1));
        Due.fails("4 layer", Due.INDEX, () -> b.draw(0, 4, 10));
        Due.fails("4 layer", Due.INDEX, () -> b.draw(0, -1, 1));
        Due.fails("4 colour", Due.ARGUMENT, () -> b.draw(0, 0, 0));
        Due.fails("4 colour", Due.ARGUMENT, () -> b.draw(0, 0, 10));
        Due.is("4 nothing made", b.changes(), 0);
        Due.fillTo(b, 60);
        Due.pens(b, 0, 0, 5, 0, 0, 5);
        Due.fails("4 no more changes", Due.STATE, () -> b.draw(0, 0, 1));
        Due.fails("4 no more changes, no colour", Due.ARGUMENT, () -> b.draw(0, 0, 0));
        Due.is("4 the pen stays", b.lift(), 3);
    }

    private static void promise05Trace() {
        Layerboard b = new Layerboard();
        Due.types(b, "(0,0)(40,20)(60,60)(0,60)");
        Due.is("5 number", b.trace(1, 2, 7), 0);
        Due.paperIs("5 corners", b, 0, "(0,0)(40,20)(60,60)(0,60)");
        Due.is("5 hand", b.of(0, 9), 1);
        Due.is("5 layer", b.of(0, 0), 2);
        Due.is("5 colour", b.of(0, 1), 7);
        Due.is("5 the tape stays", b.trace(0, 0, 1), 1);
        Due.is("5 its length", b.wipe(), 25);
        String[] none = {"", "(0,0)(4,0)", "(0,0)(4,0)(0,4", "(0,0)(4,0)(0,4);", "(0,0)(4,0)(0,61)", "(0,0)(4,0)(0,04)",
            "(0,0)(3,1)(0,5)", "(0,0)(0,0)(4,4)"};
        for (String text : none) {
            Due.types(b, text);
            Due.fails("5 " + text, Due.STATE, () -> b.trace(0, 0, 1));
            Due.is("5 the tape stays " + text, b.wipe(), text.length());
        }
        Due.fails("5 hand", Due.INDEX, () -> b.trace(3, 0, 0));
        Due.fails("5 layer", Due.INDEX, () -> b.trace(0, 4, 0));
        Due.fails("5 colour", Due.ARGUMENT, () -> b.trace(0, 3, 10));
        Due.fillTo(b, 60);
        Due.types(b, "(0,0)(4,0)(0,4)");
        Due.fails("5 no more changes", Due.STATE, () -> b.trace(0, 0, 1));
    }

    private static void promise06Box() {
        Layerboard b = new Layerboard();
        Due.is("6 number", b.box(0, 0, 1, 0, 0, 60, 60), 0);
        Due.is("6 number", b.box(1, 3, 9, 5, 7, 2, 3), 1);
        Due.paperIs("6 corners", b, 1, "(5,7)(7,7)(7,10)(5,10)");
        Due.is("6 hand", b.of(1, 9), 1);
        Due.is("6 least", b.box(2, 0, 1, 59, 59, 1, 1), 2);
        Due.fails("6 hand", Due.INDEX, () -> b.box(3, 0, 0, 0, 0, 1, 1));
        Due.fails("6 layer", Due.INDEX, () -> b.box(0, 4, 0, 0, 0, 0, 1));
        int[][] bad = {{0, 0, 0, 1, 1}, {10, 0, 0, 1, 1}, {1, -1, 0, 2, 1}, {1, 0, -1, 1, 2}, {1, 0, 0, 0, 1},
            {1, 0, 0, 1, 0}, {1, 0, 0, 61, 1}, {1, 0, 0, 1, 61}, {1, 1, 0, 60, 1}, {1, 0, 1, 1, 60}, {1, 60, 0, 1, 1},
            {1, Integer.MAX_VALUE, 0, 1, 1}, {1, 1, 1, Integer.MAX_VALUE, 1}, {1, 0, Integer.MIN_VALUE, 1, 1}};
        for (int[] a : bad) {
            Due.fails("6 bad", Due.ARGUMENT, () -> b.box(0, 0, a[0], a[1], a[2], a[3], a[4]));
        }
        Due.is("6 nothing more made", b.changes(), 3);
        Due.fillTo(b, 60);
        Due.fails("6 no more changes", Due.STATE, () -> b.box(0, 0, 1, 0, 0, 1, 1));
        Due.fails("6 colour first", Due.ARGUMENT, () -> b.box(0, 0, 0, 0, 0, 1, 1));
    }

    private static void promise07Diamond() {
        Layerboard b = new Layerboard();
        Due.is("7 number", b.diamond(0, 0, 1, 30, 30, 30), 0);
        Due.paperIs("7 corners", b, 0, "(0,30)(30,0)(60,30)(30,60)");
        Due.is("7 area", b.area(0, false), 1800);
        Due.is("7 least", b.diamond(2, 1, 9, 1, 59, 1), 1);
        Due.paperIs("7 corners", b, 1, "(0,59)(1,58)(2,59)(1,60)");
        Due.fails("7 hand", Due.INDEX, () -> b.diamond(-1, 0, 0, 5, 5, 1));
        Due.fails("7 layer", Due.INDEX, () -> b.diamond(0, -1, 0, 5, 5, 1));
        int[][] bad = {{0, 5, 5, 1}, {10, 5, 5, 1}, {1, 5, 5, 0}, {1, 30, 30, 31}, {1, 4, 30, 5}, {1, 56, 30, 5},
            {1, 30, 4, 5}, {1, 30, 56, 5}, {1, -1, 5, 1}, {1, 5, Integer.MIN_VALUE, 1}, {1, 5, 5, Integer.MIN_VALUE}};
        for (int[] a : bad) {
            Due.fails("7 bad", Due.ARGUMENT, () -> b.diamond(0, 0, a[0], a[1], a[2], a[3]));
        }
        Due.is("7 nothing more made", b.changes(), 2);
        Due.fillTo(b, 60);
        Due.fails("7 no more changes", Due.STATE, () -> b.diamond(0, 0, 1, 5, 5, 1));
    }

    /** Seed 0 gives 13849, 865 (kind 1) and so on; worked out by hand for the first shape. */
    private static void promise08Sample() {
        Layerboard b = new Layerboard();
        long seed = 0;
        int[] lots = new int[6];
        for (int i = 0; i < 6; i++) {
            seed = (seed * 25173 + 13849) % 65536;
            lots[i] = (int) (seed / 16);
        }
        Due.is("8 the first lot", lots[0] % 4, 1);
        Due.is("8 number of the last one", b.sample(1, 0, 1), 0);
        int n = lots[5] % 10 + 1;
        Due.is("8 layer", b.of(0, 0), lots[1] % 4);
        Due.is("8 colour", b.of(0, 1), lots[2] % 9 + 1);
        Due.is("8 left", b.of(0, 10), lots[3] % 40);
        Due.is("8 lower", b.of(0, 11), lots[4] % 40);
        Due.is("8 right", b.of(0, 12), lots[3] % 40 + n);
        Due.is("8 upper", b.of(0, 13), lots[4] % 40 + 2 * n);
        Due.is("8 number of the last one", b.sample(2, 65535, 6), 6);
        Due.is("8 hand", b.of(6, 9), 2);
        Due.is("8 one change for each", b.changes(), 7);
        Due.is("8 taken back one by one", b.undo(2), 6);
        Due.is("8 the others stay", b.shapes(), 63);
        Due.fails("8 hand", Due.INDEX, () -> b.sample(3, -1, 1));
        Due.fails("8 seed", Due.ARGUMENT, () -> b.sample(0, -1, 1));
        Due.fails("8 seed", Due.ARGUMENT, () -> b.sample(0, 65536, 1));
        Due.fails("8 many", Due.ARGUMENT, () -> b.sample(0, 0, 0));
        Due.fails("8 many", Due.ARGUMENT, () -> b.sample(0, 0, 7));
        Due.fillTo(b, 55);
        Due.fails("8 not so many", Due.STATE, () -> b.sample(0, 1, 6));
        Due.fails("8 not so many, and many", Due.ARGUMENT, () -> b.sample(0, 1, 7));
        Due.is("8 nothing made", b.changes(), 55);
        Due.is("8 just so many", b.sample(0, 1, 5), 59);
        Due.fails("8 no more", Due.STATE, () -> b.sample(0, 1, 1));
    }

    /** All four kinds by their outlines, told by the lots that are drawn here anew. */
    private static void promise08Kinds() {
        int kinds = 0;
        for (int seed = 0; seed < 65536; seed += 1543) {
            Layerboard b = new Layerboard();
            b.sample(0, seed, 1);
            long s = seed;
            int[] lots = new int[6];
            for (int i = 0; i < 6; i++) {
                s = (s * 25173 + 13849) % 65536;
                lots[i] = (int) (s / 16);
            }
            int x = lots[3] % 40;
            int y = lots[4] % 40;
            int n = lots[5] % 10 + 1;
            String[] want = {
                "(" + x + "," + y + ")(" + (x + 2 * n) + "," + y + ")(" + (x + 2 * n) + "," + (y + n) + ")(" + x + "," + (y + n) + ")",
                "(" + x + "," + y + ")(" + (x + n) + "," + y + ")(" + (x + n) + "," + (y + 2 * n) + ")(" + x + "," + (y + 2 * n) + ")",
                "(" + x + "," + (y + n) + ")(" + (x + n) + "," + y + ")(" + (x + 2 * n) + "," + (y + n) + ")(" + (x + n) + "," + (y + 2 * n) + ")",
                "(" + x + "," + y + ")(" + (x + 2 * n) + "," + y + ")(" + x + "," + (y + n) + ")"};
            kinds |= 1 << lots[0] % 4;
            Due.paperIs("8 seed " + seed, b, 0, want[lots[0] % 4]);
        }
        Due.is("8 all kinds were there", kinds, 15);
    }

    private static void promise09Erase() {
        Layerboard b = new Layerboard();
        b.box(0, 0, 1, 0, 0, 4, 4);
        b.box(0, 0, 1, 10, 0, 4, 4);
        b.box(0, 0, 1, 20, 0, 4, 4);
        b.box(0, 0, 1, 30, 0, 4, 4);
        b.tie(0, 1, 0, 2);
        b.tie(0, 2, 0, 1);
        b.tie(0, 3, 1, 0);
        Due.is("9 followers, those of followers not", b.erase(0, 0), 2);
        Due.is("9 no leader any more", b.of(1, 2), Layerboard.NONE);
        Due.is("9 no kind any more", b.of(1, 3), Layerboard.NONE);
        Due.is("9 other ties stay", b.of(3, 2), 1);
        Due.is("9 shapes", b.shapes(), 14);
        Due.fails("9 not there", Due.INDEX, () -> b.erase(0, 0));
        Due.fails("9 not there", Due.INDEX, () -> b.of(0, 0));
        Due.fails("9 a change that made none", Due.INDEX, () -> b.erase(0, 4));
        Due.fails("9 -1", Due.INDEX, () -> b.erase(0, -1));
        Due.fails("9 60", Due.INDEX, () -> b.erase(0, 60));
        Due.fails("9 hand", Due.INDEX, () -> b.erase(3, 1));
        Due.is("9 none followed", b.erase(0, 2), 0);
        Due.fillTo(b, 60);
        Due.fails("9 no more changes", Due.STATE, () -> b.erase(0, 1));
        Due.fails("9 no more changes, no shape", Due.INDEX, () -> b.erase(0, 2));
        Due.is("9 still there", b.shapes(), 10);
    }

    public static void main(String[] args) {
        promise01New();
        promise02Pen();
        promise03Lift();
        promise04Draw();
        promise04Refuses();
        promise05Trace();
        promise06Box();
        promise07Diamond();
        promise08Sample();
        promise08Kinds();
        promise09Erase();
        Due.finish("DrawingTest");
    }
}
