import java.util.function.ToLongFunction;

/** Long runs of calls on a loom and on the model: each answer, each exception and each digest have to be alike. */
public final class ModelTest {
    private static final int[] SHADES = {
        0, 0x80000000, 1, 2, 0x007FFFFF, 0x00800000, 0x00800001, 0x3F800000, 0x3DCCCCCD, 0x41233333, 0x41A00000,
        0x41A9999A, 0x42480000, 0x42C7FFFF, 0x42C80000, 0x40000000, 0x40400000, 0x33D6BF95};
    private static final int[] BAD_SHADES = {
        0x42C80001, 0x80000001, 0xBF800000, 0x7F800000, 0xFF800000, 0x7FC00000, 0xFFFFFFFF, 0x7FFFFFFF, 0x7F800001};
    private static final int[] EDGES = {
        -1, -2, Integer.MIN_VALUE, Integer.MAX_VALUE, 16, 17, 20, 21, 999, 1000, 107374182, 134217728, 320};
    private static final String[] PIECES = {
        "weave 3;", "weave 016 ;", "undo 1;", " undo 2 ;", "cloth 4 4;", "cloth 20 16;", "cloth 21 1;", "fill 0 0 2 3 1;",
        "fill 1 1 1 5 2 ;", "fill 3 0 1 0 1;", "lot 0 200 10;", "lot 1 99 20;", "lot 2 60 101;", "lot 2 1 100;",
        "slip 0 3;", "slip 9 1;", "sew 0;", "sew 1;", "limit 1;", "limit 002;", "limit 17;", " ", "  ", ";", "x", "weav",
        "weaves 1;", "lot", "weave", "weave ", "1", "12", "1234", "weave 1", "weave 1 2", "Weave 1;", "sew;", "sew a;",
        "limit 1a;", "fill 1 2 3 4;", "fill 1 2 3 4 5 6;", "w", "\n", "\t", "limit 3;"};

    private static long seed;

    private static int below(int bound) {
        seed = seed * 6364136223846793005L + 1442695040888963407L;
        return (int) ((seed >>> 33) % bound);
    }

    private static int pick(int[] of) {
        return of[below(of.length)];
    }

    /** Mostly a number below the bound, sometimes one at or behind an edge. */
    private static int about(int bound) {
        return below(25) == 0 ? pick(EDGES) : below(25) == 0 ? bound : below(bound);
    }

    private static String answer(ToLongFunction<Object> call, Object of) {
        try {
            return Long.toString(call.applyAsLong(of));
        } catch (RuntimeException e) {
            return e.getClass().getSimpleName();
        }
    }

    private static final class Run {
        final int number;
        final MirrorLoom loom = new MirrorLoom();
        final Model model = new Model();
        int calls;

        Run(int number) {
            this.number = number;
        }

        void both(String name, ToLongFunction<MirrorLoom> ours, ToLongFunction<Model> theirs) {
            calls++;
            String got = answer(o -> ours.applyAsLong((MirrorLoom) o), loom);
            String want = answer(o -> theirs.applyAsLong((Model) o), model);
            if (!got.equals(want)) {
                Due.fault("run " + number + ", call " + calls + ": " + name + " answered " + got + ", the model " + want);
            }
        }
    }

    private static void type(Run r, String text) {
        for (char c : text.toCharArray()) {
            r.both("type " + (int) c, m -> m.type(c), m -> m.type(c));
        }
    }

    private static void change(Run r) {
        int a = about(20);
        int b = about(16);
        int c = about(8);
        int columns = r.loom.whole(0);
        int rows = r.loom.whole(1);
        switch (below(24)) {
            case 0:
                int w = below(6) == 0 ? 1 : a;
                if (below(3) == 0) {
                    r.both("begin " + w + " " + b, m -> m.begin(w, b), m -> m.begin(w, b));
                }
                break;
            case 1: case 2: case 3: case 4: case 5:
                int x = about(columns);
                int y = about(rows);
                int u = below(4) == 0 ? about(columns) : x + below(2);
                int v = below(2) == 0 ? about(rows) : below(2) == 0 ? rows - 1 : y + below(3);
                r.both("fill " + x + " " + y + " " + u + " " + v + " " + c, m -> m.fill(x, y, u, v, c), m -> m.fill(x, y, u, v, c));
                break;
            case 6: case 7: case 8: case 9:
                int length = below(4) == 0 ? about(1000) : 1 + below(60);
                int shade = below(12) == 0 ? pick(BAD_SHADES) : pick(SHADES);
                int lc = below(2) == 0 ? about(3) : c;
                r.both("addLot " + lc + " " + length + " " + shade, m -> m.addLot(lc, length, shade), m -> m.addLot(lc, length, shade));
                break;
            case 10:
                int t = below(6) == 0 ? pick(BAD_SHADES) : pick(SHADES);
                r.both("setTolerance " + t, m -> m.setTolerance(t), m -> m.setTolerance(t));
                break;
            case 11:
                int l = below(3) == 0 ? about(17) : 1 + below(3);
                r.both("setLimit " + l, m -> m.setLimit(l), m -> m.setLimit(l));
                break;
            case 12: case 13:
                int p = about(columns);
                r.both("plant " + p + " " + c, m -> m.plant(p, c), m -> m.plant(p, c));
                break;
            case 14: case 15: case 16: case 17:
                r.both("weave " + b, m -> m.weave(b), m -> m.weave(b));
                break;
            case 18:
                int k = below(3) == 0 ? b : 1 + below(3);
                r.both("unweave " + k, m -> m.unweave(k), m -> m.unweave(k));
                break;
            case 19: case 20:
                int i = about(6);
                r.both("sew " + i, m -> m.sew(i), m -> m.sew(i));
                break;
            case 21:
                for (int pieces = below(6); pieces > 0; pieces--) {
                    type(r, PIECES[below(below(2) == 0 ? 22 : PIECES.length)]);
                }
                r.both("runCommands", m -> m.runCommands(), m -> m.runCommands());
                if (below(3) > 0) {
                    r.both("clearCommands", m -> m.clearCommands(), m -> m.clearCommands());
                }
                break;
            case 22:
                r.both("undo", m -> m.undo(), m -> m.undo());
                break;
            default:
                int value = below(3) == 0 ? pick(EDGES) : below(129);
                r.both("type " + value, m -> m.type(value), m -> m.type(value));
        }
    }

    private static void ask(Run r) {
        int a = about(r.loom.whole(0));
        int b = about(r.loom.whole(1));
        int what = about(7);
        int k = about(8);
        switch (below(14)) {
            case 0: r.both("cell " + a + " " + b + " " + what, m -> m.cell(a, b, what), m -> m.cell(a, b, what)); break;
            case 1: r.both("row " + b + " " + what, m -> m.row(b, what), m -> m.row(b, what)); break;
            case 2: r.both("lot " + k + " " + what, m -> m.lot(k, what), m -> m.lot(k, what)); break;
            case 3: r.both("color " + k + " " + what, m -> m.color(k, what), m -> m.color(k, what)); break;
            case 4: r.both("slit " + k + " " + what, m -> m.slit(k, what), m -> m.slit(k, what)); break;
            case 5: r.both("whole " + (what + k), m -> m.whole(what + k), m -> m.whole(what + k)); break;
            case 6: r.both("meanShade " + k, m -> m.meanShade(k), m -> m.meanShade(k)); break;
            case 7: r.both("contrast " + b, m -> m.contrast(b), m -> m.contrast(b)); break;
            case 8: r.both("worstSeam", m -> m.worstSeam(), m -> m.worstSeam()); break;
            case 9: r.both("rowsPossible", m -> m.rowsPossible(), m -> m.rowsPossible()); break;
            case 10: r.both("missing " + k, m -> m.missing(k), m -> m.missing(k)); break;
            case 11: r.both("slitsWith " + b, m -> m.slitsWith(b), m -> m.slitsWith(b)); break;
            case 12: r.both("firstWrong", m -> m.firstWrong(), m -> m.firstWrong()); break;
            default: r.both("shuttlesFor " + b, m -> m.shuttlesFor(b), m -> m.shuttlesFor(b));
        }
    }

    /** Texts of random bytes near the grammar: the fault has to be the one that the model finds. */
    private static void texts() {
        String letters = "  ;;0123weavlotsewx\t{`/:A";
        for (int k = 0; k < 4000; k++) {
            Run r = new Run(-k);
            StringBuilder text = new StringBuilder();
            for (int pieces = below(5); pieces >= 0; pieces--) {
                text.append(PIECES[below(PIECES.length)]);
            }
            for (int edits = below(4); edits > 0 && text.length() > 0; edits--) {
                text.setCharAt(below(text.length()), letters.charAt(below(letters.length())));
            }
            String typed = text.substring(0, Math.min(text.length(), 150));
            type(r, typed);
            r.both("runCommands of \"" + typed + "\"", m -> m.runCommands(), m -> m.runCommands());
            r.both("digest", m -> m.digest(), m -> m.digest());
        }
    }

    public static void main(String[] args) {
        seed = 43346;
        for (int number = 0; number < 1500; number++) {
            Run r = new Run(number);
            while (r.calls < 480) {
                change(r);
                r.both("digest", m -> m.digest(), m -> m.digest());
                for (int asks = below(3); asks > 0; asks--) {
                    ask(r);
                }
            }
        }
        texts();
        Due.end("ModelTest");
    }
}
