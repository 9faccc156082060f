import java.util.Random;

/** Promises 46 to 51: the tape, papers and soundness. */
public final class TextTest {
    private static void promise46Type() {
        Layerboard b = new Layerboard();
        Due.is("46 first", b.type(32), 1);
        Due.is("46 second", b.type(126), 2);
        Due.fails("46 31", Due.ARGUMENT, () -> b.type(31));
        Due.fails("46 127", Due.ARGUMENT, () -> b.type(127));
        Due.fails("46 far below", Due.ARGUMENT, () -> b.type(Integer.MIN_VALUE));
        for (int i = 3; i <= 80; i++) {
            Due.is("46 more", b.type(65), i);
        }
        Due.fails("46 one more", Due.STATE, () -> b.type(65));
        Due.fails("46 one more that is none", Due.ARGUMENT, () -> b.type(31));
        Due.is("46 still 80", b.wipe(), 80);
    }

    private static void promise47Wipe() {
        Layerboard b = new Layerboard();
        Due.is("47 empty", b.wipe(), 0);
        Due.types(b, "(1,2)");
        Due.is("47 how many it had", b.wipe(), 5);
        Due.is("47 again", b.wipe(), 0);
        Due.is("47 begins anew", b.type(40), 1);
        Due.is("47 no change", b.changes(), 0);
    }

    private static void faultIs(String text, int want) {
        Layerboard b = new Layerboard();
        Due.types(b, text);
        Due.is("48 " + text, b.fault(), want);
        Due.is("48 the tape stays " + text, b.wipe(), text.length());
    }

    private static void promise48Fault() {
        faultIs("", 0);
        faultIs("(", 1);
        faultIs("x", 0);
        faultIs(")", 0);
        faultIs("()", 1);
        faultIs("(,", 1);
        faultIs("(0", 2);
        faultIs("(00", 2);
        faultIs("(01,", 2);
        faultIs("(0)", 2);
        faultIs("(5,", 3);
        faultIs("(59,", 4);
        faultIs("(60,", 4);
        faultIs("(61,", 2);
        faultIs("(600", 3);
        faultIs("(70,", 2);
        faultIs("(9,9", 4);
        faultIs("(9,9,", 4);
        faultIs("(9,,", 3);
        faultIs("(9,61", 4);
        faultIs("(9,07", 4);
        faultIs("( 1", 1);
        faultIs("(-1", 1);
        faultIs("(1,1);", 5);
        faultIs("(1,1)(2,2)", 10);
        faultIs("(1,1)(2,2)(3,3)", Layerboard.NONE);
        faultIs("(1,1)(1,1)(1,1)", Layerboard.NONE);
        faultIs("(1,1)(2,2)(3,3)(", 16);
        faultIs("(1,1)(2,2)(3,3)x", 15);
        faultIs("(10,60)(0,0)(60,60)(1,1)(1,1)(1,1)(1,1)(59,9)", Layerboard.NONE);
        faultIs("(1,1)(1,1)(1,1)(1,1)(1,1)(1,1)(1,1)(1,1)(", 40);
        faultIs("(60,60)(60,60)(60,60)(60,60)(60,60)(60,60)(60,60)(60,60)", Layerboard.NONE);
    }

    private static void promise49Paper() {
        Layerboard b = new Layerboard();
        Due.draws(b, 0, 0, 60, 0, 0, 30);
        b.box(0, 0, 1, 9, 10, 1, 1);
        Due.is("49 how many signs", b.paper(0), 17);
        Due.paperIs("49 corners", b, 0, "(0,0)(60,0)(0,30)");
        b.join(0, 0, 0, 1);
        Due.paperIs("49 two polygons", b, 2, "(0,0)(60,0)(0,30);(9,10)(10,10)(10,11)(9,11)");
        b.move(0, 1, 1, 1, true);
        Due.paperIs("49 as it is now", b, 1, "(10,11)(11,11)(11,12)(10,12)");
        Due.fails("49 shape", Due.INDEX, () -> b.paper(3));
        Due.fails("49 shape", Due.INDEX, () -> b.paper(-1));
        Due.is("49 no change", b.changes(), 4);
        Layerboard c = new Layerboard();
        Due.draws(c, 10, 10, 20, 20, 30, 20, 40, 20, 50, 20, 40, 30, 30, 30, 20, 20);
        c.join(0, 0, 0, 0);
        c.join(0, 0, 1, 1);
        Due.is("49 the longest", c.paper(2), 4 * 8 * 7 + 3);
    }

    private static void promise50Out() {
        Layerboard b = new Layerboard();
        Due.fails("50 nothing told yet", Due.INDEX, () -> b.out(0));
        b.box(0, 0, 1, 9, 10, 1, 1);
        b.box(0, 0, 1, 9, 9, 1, 1);
        b.paper(0);
        Due.is("50 first", b.out(0), '(');
        Due.is("50 second", b.out(1), '9');
        Due.is("50 third", b.out(2), ',');
        Due.is("50 last", b.out(25), ')');
        Due.fails("50 behind the last", Due.INDEX, () -> b.out(26));
        Due.fails("50 -1", Due.INDEX, () -> b.out(-1));
        Due.fails("50 a shape that is not there", Due.INDEX, () -> b.paper(2));
        b.erase(0, 0);
        Due.is("50 it stays", b.out(25), ')');
        b.paper(1);
        Due.fails("50 a shorter one", Due.INDEX, () -> b.out(24));
    }

    private static void promise51IsSound() {
        Random random = new Random(51);
        for (int run = 0; run < 40; run++) {
            Layerboard b = new Layerboard();
            for (int i = 0; i < 5; i++) {
                b.sample(i % 3, random.nextInt(65536), 6);
            }
            for (int i = 0; i < 60; i++) {
                try {
                    changeSomehow(b, random);
                } catch (IllegalStateException | IndexOutOfBoundsException e) {
                    // what can not be done leaves the board as it is
                }
            }
            Due.is("51 run " + run, b.isSound(), true);
            Due.is("51 the areas of all", areasAddUp(b), true);
        }
        Due.is("51 empty", new Layerboard().isSound(), true);
    }

    private static void changeSomehow(Layerboard b, Random random) {
        int one = random.nextInt(60);
        int other = random.nextInt(60);
        switch (random.nextInt(9)) {
            case 0 -> b.join(0, random.nextInt(4), one, other);
            case 1 -> b.turn(1, one, 1 + random.nextInt(3));
            case 2 -> b.tie(2, one, other, random.nextInt(3));
            case 3 -> b.gather(0, 1L << one | 1L << other);
            case 4 -> b.raise(1, one, random.nextInt(4));
            case 5 -> b.move(2, one, random.nextInt(11) - 5, random.nextInt(11) - 5, false);
            case 6 -> b.undo(random.nextInt(3));
            case 7 -> b.erase(0, one);
            default -> b.toLayer(1, one, random.nextInt(4));
        }
    }

    private static boolean areasAddUp(Layerboard b) {
        for (int i = 0; Long.bitCount(b.shapes()) > i + 1; i++) {
            int one = b.shapeAt(i);
            int other = b.shapeAt(i + 1);
            double both = told(b, 0, one, other) + told(b, 1, one, other);
            double less = told(b, 2, one, other) + told(b, 1, one, other);
            double area = (double) b.area(one, false) / b.area(one, true);
            double next = (double) b.area(other, false) / b.area(other, true);
            if (Math.abs(both - area - next) > 1e-9 || Math.abs(less - area) > 1e-9) {
                return false;
            }
        }
        return true;
    }

    private static double told(Layerboard b, int how, int one, int other) {
        return (double) b.areaOf(how, one, other, false) / b.areaOf(how, one, other, true);
    }

    public static void main(String[] args) {
        promise46Type();
        promise47Wipe();
        promise48Fault();
        promise49Paper();
        promise50Out();
        promise51IsSound();
        Due.finish("TextTest");
    }
}
