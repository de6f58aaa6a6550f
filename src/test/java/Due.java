/** Counts the answers that are not the ones that are due, and prints them. */
final class Due {
    private static int wrong = 0;

    private Due() {
    }

    static void same(String call, long got, long want) {
        if (got != want) {
            wrong++;
            System.out.println(call + " answered " + got + ", due is " + want);
        }
    }

    static void sameShade(String call, int got, float want) {
        same(call, got, Float.floatToIntBits(want));
    }

    /** The call has to throw just this exception, and to change nothing. */
    static void refused(String call, MirrorLoom loom, Class<? extends RuntimeException> want, Runnable run) {
        long before = loom.digest();
        String got = "nothing";
        try {
            run.run();
        } catch (RuntimeException e) {
            got = e.getClass().getName();
        }
        if (!got.equals(want.getName())) {
            wrong++;
            System.out.println(call + " threw " + got + ", due is " + want.getName());
        }
        same(call + ", digest behind it", loom.digest(), before);
    }

    static void wholes(String name, MirrorLoom m, int... want) {
        for (int what = 0; what < want.length; what++) {
            same(name + ": whole(" + what + ")", m.whole(what), want[what]);
        }
    }

    static void rows(String name, MirrorLoom m, int y, int... want) {
        for (int what = 0; what < want.length; what++) {
            same(name + ": row(" + y + ", " + what + ")", m.row(y, what), want[what]);
        }
    }

    static void colors(String name, MirrorLoom m, int color, int... want) {
        for (int what = 0; what < want.length; what++) {
            same(name + ": color(" + color + ", " + what + ")", m.color(color, what), want[what]);
        }
    }

    static void lots(String name, MirrorLoom m, int lot, int... want) {
        for (int what = 0; what < want.length; what++) {
            same(name + ": lot(" + lot + ", " + what + ")", m.lot(lot, what), want[what]);
        }
    }

    static void slits(String name, MirrorLoom m, int index, int... want) {
        for (int what = 0; what < want.length; what++) {
            same(name + ": slit(" + index + ", " + what + ")", m.slit(index, what), want[what]);
        }
    }

    /** The woven colors of a row, from the back column 0 on. */
    static void rowColors(String name, MirrorLoom m, int y, int... want) {
        for (int b = 0; b < want.length; b++) {
            same(name + ": color at the back column " + b + " of row " + y, m.cell(want.length - 1 - b, y, 1), want[b]);
        }
    }

    /** The lots of a woven row, from the back column 0 on. */
    static void rowLots(String name, MirrorLoom m, int y, int... want) {
        for (int b = 0; b < want.length; b++) {
            same(name + ": lot at the back column " + b + " of row " + y, m.cell(want.length - 1 - b, y, 2), want[b]);
        }
    }

    static void fault(String text) {
        wrong++;
        System.out.println(text);
    }

    static void end(String name) {
        System.out.println(name + ": " + (wrong == 0 ? "all answers are as due" : wrong + " answers are not as due"));
        if (wrong != 0) {
            System.exit(1);
        }
    }
}
