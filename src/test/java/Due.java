/** Counts the answers that are not the ones that are due, and prints them. */
final class Due {
    private static int wrong = 0;

    private Due() {
    }

    static void same(String call, long got, long want) {
        if (got != want) {
            wrong++;
            System.out.println(call + " answered " + got + ", due is " + want);
        }
    }

    static void sameShade(String call, int got, float want) {
        same(call, got, Float.floatToIntBits(want));
    }

    /** The call has to throw just this exception, and to change nothing. */
    static void refused(String call, MirrorLoom loom, Class<? extends RuntimeException> want, Runnable run) {
        long before = loom.digest();
        String got = "nothing";
        try {
            run.run();
        } catch (RuntimeException e) {
            got = e.getClass().getName();
        }
        if (!got.equals(want.getName())) {
            wrong++;
            System.out.println(call + " threw " + got + ", due is " + want.getName());
        }
        same(call + ", digest behind it", loom.digest(), before);
    }

    static void fault(String text) {
        wrong++;
        System.out.println(text);
    }

    static void end(String name) {
        System.out.println(name + ": " + (wrong == 0 ? "all answers are as due" : wrong + " answers are not as due"));
        if (wrong != 0) {
            System.exit(1);
        }
    }
}
