/** Holds answers against those that are due, and counts. */
final class Due {
    static final Class<?> INDEX = IndexOutOfBoundsException.class;
    static final Class<?> ARGUMENT = IllegalArgumentException.class;
    static final Class<?> STATE = IllegalStateException.class;

    private static int held = 0;
    private static int wrong = 0;

    interface Call {
        Object run();
    }

    static void is(String what, long got, long want) {
        held++;
        if (got != want) {
            wrong++;
            System.out.println(what + ": answered " + got + ", due is " + want);
        }
    }

    static void is(String what, boolean got, boolean want) {
        is(what, got ? 1 : 0, want ? 1 : 0);
    }

    static void is(String what, String got, String want) {
        held++;
        if (!got.equals(want)) {
            wrong++;
            System.out.println(what + ": answered " + got + ", due is " + want);
        }
    }

    static void fails(String what, Class<?> want, Call call) {
        held++;
        try {
            Object got = call.run();
            wrong++;
            System.out.println(what + ": answered " + got + ", due is " + want.getSimpleName());
        } catch (RuntimeException e) {
            if (e.getClass() != want) {
                wrong++;
                System.out.println(what + ": threw " + e + ", due is " + want.getSimpleName());
            }
        }
    }

    /** The call throws nothing. */
    static void answers(String what, Call call) {
        held++;
        try {
            call.run();
        } catch (RuntimeException e) {
            wrong++;
            System.out.println(what + ": threw " + e + ", due is an answer");
        }
    }

    static void pens(Layerboard b, int... xy) {
        b.lift();
        for (int i = 0; i + 1 < xy.length; i += 2) {
            b.pen(xy[i], xy[i + 1]);
        }
    }

    static int draws(Layerboard b, int... xy) {
        pens(b, xy);
        return b.draw(0, 0, 1);
    }

    static void types(Layerboard b, String text) {
        b.wipe();
        for (int i = 0; i < text.length(); i++) {
            b.type(text.charAt(i));
        }
    }

    static String paper(Layerboard b, int shape) {
        StringBuilder text = new StringBuilder();
        int many = b.paper(shape);
        for (int i = 0; i < many; i++) {
            text.append((char) b.out(i));
        }
        return text.toString();
    }

    static void paperIs(String what, Layerboard b, int shape, String want) {
        is(what + ", the paper", paper(b, shape), want);
    }

    /** Makes changes that alter nothing until so many are made. */
    static Layerboard fillTo(Layerboard b, int many) {
        while (b.changes() < many) {
            b.show(2, 3, true);
        }
        return b;
    }

    static void finish(String test) {
        System.out.println(test + ": " + held + " answers, " + wrong + " wrong");
        System.exit(wrong == 0 ? 0 : 1);
    }

    private Due() {
    }
}
