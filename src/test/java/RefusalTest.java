/**
 * Each argument just below, at and just above its range; for each refused call which exception is thrown, which one
 * where several apply, and that nothing has changed. Each in all the states of Edge, unless a place or a state matters.
 */
public final class RefusalTest {
    private static final Class<IllegalArgumentException> ARGUMENT = IllegalArgumentException.class;
    private static final Class<IndexOutOfBoundsException> INDEX = IndexOutOfBoundsException.class;
    private static final Class<IllegalStateException> STATE = IllegalStateException.class;
    private static final int MIN = Integer.MIN_VALUE;
    private static final int MAX = Integer.MAX_VALUE;
    private static final int HUNDRED = Float.floatToIntBits(100.0f);
    private static final int MINUS_ZERO = Float.floatToIntBits(-0.0f);
    private static final int[] SHADES = {0, MINUS_ZERO, 1, HUNDRED - 1, HUNDRED};
    private static final int[] NO_SHADES = {
        HUNDRED + 1, MINUS_ZERO + 1, Float.floatToIntBits(-1.0f), Float.floatToIntBits(-100.0f), -1, MAX,
        Float.floatToIntBits(Float.MAX_VALUE), Float.floatToIntBits(Float.POSITIVE_INFINITY),
        Float.floatToIntBits(Float.NEGATIVE_INFINITY), Float.floatToIntBits(Float.NaN), 0x7F800001, 0xFFC00000};

    /** A call with one number, the others of which are fine. */
    private interface OneNumber {
        void on(MirrorLoom m, int n);
    }

    private RefusalTest() {
    }

    private static int[] outside(int least, int greatest) {
        return new int[] {least - 1, greatest + 1, MIN, MAX};
    }

    /** In every state, the numbers just outside are refused. */
    private static void refusedOutside(
            String name, int least, int greatest, Class<? extends RuntimeException> want, OneNumber call) {
        for (Edge edge : Edge.values()) {
            for (int n : outside(least, greatest)) {
                Twins.refused(edge, name + " with " + n, want, m -> call.on(m, n));
            }
        }
    }

    /** Numbers at the ends of the range are taken, those just outside are refused. */
    private static void range(String name, int least, int greatest, Class<? extends RuntimeException> want, OneNumber call) {
        refusedOutside(name, least, greatest, want, call);
        Twins.allowed(Edge.FRESH, name + " with " + least, m -> call.on(m, least));
        Twins.allowed(Edge.FRESH, name + " with " + greatest, m -> call.on(m, greatest));
    }

    /** The same for what a place of its own depends on: places of this state alone. */
    private static void places(Edge edge, String name, int count, Class<? extends RuntimeException> want, OneNumber call) {
        for (int n : outside(0, count - 1)) {
            Twins.refused(edge, name + " with " + n, want, m -> call.on(m, n));
        }
        if (count > 0) {
            Twins.allowed(edge, name + " with 0", m -> call.on(m, 0));
            Twins.allowed(edge, name + " with " + (count - 1), m -> call.on(m, count - 1));
        }
    }

    private static int columns(Edge edge) {
        return edge.make().whole(0);
    }

    private static int rows(Edge edge) {
        return edge.make().whole(1);
    }

    private static int wovenRows(Edge edge) {
        return edge.make().whole(2);
    }

    private static int lots(Edge edge) {
        return edge.make().whole(3);
    }

    private static void states() {
        int[][] want = {{8, 6, 0, 0}, {1, 1, 1, 2}, {6, 5, 4, 4}, {8, 6, 0, 16}, {20, 16, 16, 16}};
        for (Edge edge : Edge.values()) {
            for (int what = 0; what < 4; what++) {
                Due.same(edge + ": whole(" + what + ")", edge.make().whole(what), want[edge.ordinal()][what]);
            }
        }
        Due.same("FULL: slits", Edge.FULL.make().whole(6), 19);
        Due.same("FULL: text", Edge.FULL.make().whole(14), 150);
        Due.same("HALF: slits", Edge.HALF.make().whole(6), 3);
    }

    private static void begin() {
        range("begin(n, 1)", 1, 20, ARGUMENT, (m, n) -> m.begin(n, 1));
        range("begin(1, n)", 1, 16, ARGUMENT, (m, n) -> m.begin(1, n));
    }

    private static void fill() {
        for (Edge edge : Edge.values()) {
            int right = columns(edge) - 1;
            int low = rows(edge) - 1;
            places(edge, "fill(n, 0, " + right + ", 0, 1)", right + 1, INDEX, (m, n) -> m.fill(n, 0, right, 0, 1));
            places(edge, "fill(0, n, 0, " + low + ", 1)", low + 1, INDEX, (m, n) -> m.fill(0, n, 0, low, 1));
            places(edge, "fill(0, 0, n, 0, 1)", right + 1, INDEX, (m, n) -> m.fill(0, 0, n, 0, 1));
            places(edge, "fill(0, 0, 0, n, 1)", low + 1, INDEX, (m, n) -> m.fill(0, 0, 0, n, 1));
            Twins.refused(edge, "fill: x is no column, color 8", INDEX, m -> m.fill(-1, 0, 0, 0, 8));
            Twins.refused(edge, "fill: y is no row, color -1", INDEX, m -> m.fill(0, -1, 0, 0, -1));
            Twins.refused(edge, "fill: v is no row, color 8", INDEX, m -> m.fill(0, 0, 0, low + 1, 8));
            Twins.refused(edge, "fill: x is no column, more than u", INDEX, m -> m.fill(right + 1, 0, right, 0, 0));
            Twins.refused(edge, "fill: y is no row, more than v", INDEX, m -> m.fill(0, low + 1, 0, low, 0));
            Twins.refused(edge, "fill: u is no column, less than x", INDEX, m -> m.fill(0, 0, -1, 0, 0));
            Twins.refused(edge, "fill: v is no row, less than y", INDEX, m -> m.fill(0, 0, 0, -1, 0));
            if (right > 0) {
                Twins.refused(edge, "fill: u is x - 1", ARGUMENT, m -> m.fill(right, 0, right - 1, 0, 1));
                Twins.refused(edge, "fill: v is y - 1", ARGUMENT, m -> m.fill(0, low, 0, low - 1, 1));
                Twins.refused(edge, "fill: u is no column, v is y - 1", INDEX, m -> m.fill(0, low, -1, low - 1, 1));
            }
            Twins.allowed(edge, "fill of the last cell", m -> m.fill(right, low, right, low, 3));
        }
        range("fill with the color n", 0, 7, ARGUMENT, (m, n) -> m.fill(0, 0, 0, 0, n));
    }

    private static void addLot() {
        range("addLot(n, 1, 0)", 0, 7, ARGUMENT, (m, n) -> m.addLot(n, 1, 0));
        range("addLot(0, n, 0)", 1, 999, ARGUMENT, (m, n) -> m.addLot(0, n, 0));
        for (Edge edge : Edge.values()) {
            for (int shade : NO_SHADES) {
                Twins.refused(edge, "addLot(0, 1, " + shade + ")", ARGUMENT, m -> m.addLot(0, 1, shade));
            }
        }
        for (int shade : SHADES) {
            Twins.allowed(Edge.FRESH, "addLot(0, 1, " + shade + ")", m -> m.addLot(0, 1, shade));
            Twins.refused(Edge.FULL, "addLot(0, 1, " + shade + ")", STATE, m -> m.addLot(0, 1, shade));
            Twins.refused(Edge.LOTS, "addLot(7, 999, " + shade + ")", STATE, m -> m.addLot(7, 999, shade));
        }
    }

    private static void tolerance() {
        for (Edge edge : Edge.values()) {
            for (int shade : NO_SHADES) {
                Twins.refused(edge, "setTolerance(" + shade + ")", ARGUMENT, m -> m.setTolerance(shade));
            }
            for (int shade : SHADES) {
                Twins.allowed(edge, "setTolerance(" + shade + ")", m -> m.setTolerance(shade));
            }
        }
    }

    private static void limits() {
        range("setLimit(n)", 1, 16, ARGUMENT, (m, n) -> m.setLimit(n));
        range("slitsWith(n)", 1, 16, ARGUMENT, (m, n) -> m.slitsWith(n));
    }

    private static void plant() {
        range("plant(0, n)", 0, 7, ARGUMENT, (m, n) -> m.plant(0, n));
        for (Edge edge : Edge.values()) {
            int columns = columns(edge);
            places(edge, "plant(n, 7)", columns, INDEX, (m, n) -> m.plant(n, 7));
            Twins.refused(edge, "plant: no column, color 8", INDEX, m -> m.plant(columns, 8));
            Twins.refused(edge, "plant: no column, color -1", INDEX, m -> m.plant(-1, -1));
            Twins.refused(edge, "plant: the last column, color 8", ARGUMENT, m -> m.plant(columns - 1, 8));
        }
    }

    private static void weaveAndUnweave() {
        range("weave(n)", 1, 16, ARGUMENT, (m, n) -> m.weave(n));
        refusedOutside("unweave(n)", 1, 16, ARGUMENT, (m, n) -> m.unweave(n));
        for (Edge edge : Edge.values()) {
            int woven = wovenRows(edge);
            if (woven < 16) {
                Twins.refused(edge, "unweave one row too much", STATE, m -> m.unweave(woven + 1));
                Twins.refused(edge, "unweave(16)", STATE, m -> m.unweave(16));
            }
            if (woven > 0) {
                Twins.allowed(edge, "unweave(1)", m -> m.unweave(1));
                Twins.allowed(edge, "unweave all", m -> m.unweave(woven));
            }
        }
    }

    private static void sew() {
        for (Edge edge : Edge.values()) {
            int slits = edge.make().whole(6);
            for (int n : outside(0, slits - 1)) {
                Twins.refused(edge, "sew(" + n + ")", INDEX, m -> m.sew(n));
            }
        }
        Twins.refused(Edge.HALF, "sew(0), which is sewn", STATE, m -> m.sew(0));
        Twins.allowed(Edge.HALF, "sew(2), the last one", m -> m.sew(2));
        Twins.refused(Edge.FULL, "sew(0), which is sewn", STATE, m -> m.sew(0));
        Twins.refused(Edge.FULL, "sew(18), which is sewn", STATE, m -> m.sew(18));
        Twins.allowed(Edge.FULL, "sew(17)", m -> m.sew(17));
    }

    /** What is asked for, just outside: refused at the first and the last place, but after the place. */
    private static void kinds(Edge edge, String name, int places, int kinds, OneNumber ask, OneNumber elsewhere) {
        for (int what : outside(0, kinds - 1)) {
            if (places > 0) {
                Twins.refused(edge, name + " of " + what, ARGUMENT, m -> ask.on(m, what));
            }
            Twins.refused(edge, name + " elsewhere of " + what, INDEX, m -> elsewhere.on(m, what));
        }
        for (int what = 0; what < kinds && places > 0; what++) {
            int asked = what;
            Twins.onlyAnswers(edge, name + " of " + what, m -> ask.on(m, asked));
        }
    }

    private static void values() {
        for (Edge edge : Edge.values()) {
            int right = columns(edge) - 1;
            int low = rows(edge) - 1;
            int woven = wovenRows(edge);
            int lots = lots(edge);
            places(edge, "cell(n, 0, 0)", right + 1, INDEX, (m, n) -> m.cell(n, 0, 0));
            places(edge, "cell(0, n, 3)", low + 1, INDEX, (m, n) -> m.cell(0, n, 3));
            kinds(edge, "cell", 1, 4, (m, n) -> m.cell(right, low, n), (m, n) -> m.cell(right + 1, low, n));
            kinds(edge, "first cell", 1, 4, (m, n) -> m.cell(0, 0, n), (m, n) -> m.cell(0, -1, n));
            places(edge, "row(n, 0)", woven, INDEX, (m, n) -> m.row(n, 0));
            kinds(edge, "last row", woven, 5, (m, n) -> m.row(woven - 1, n), (m, n) -> m.row(woven, n));
            kinds(edge, "first row", woven, 5, (m, n) -> m.row(0, n), (m, n) -> m.row(-1, n));
            places(edge, "lot(n, 0)", lots, INDEX, (m, n) -> m.lot(n, 0));
            kinds(edge, "last lot", lots, 6, (m, n) -> m.lot(lots - 1, n), (m, n) -> m.lot(lots, n));
            kinds(edge, "first lot", lots, 6, (m, n) -> m.lot(0, n), (m, n) -> m.lot(-1, n));
            places(edge, "contrast(n)", woven, INDEX, (m, n) -> m.contrast(n));
            places(edge, "shuttlesFor(n)", low + 1, INDEX, (m, n) -> m.shuttlesFor(n));
        }
        range("color(n, 5)", 0, 7, ARGUMENT, (m, n) -> m.color(n, 5));
        range("color(0, n)", 0, 5, ARGUMENT, (m, n) -> m.color(0, n));
        range("color(7, n)", 0, 5, ARGUMENT, (m, n) -> m.color(7, n));
        range("slit(0, n)", 0, 3, ARGUMENT, (m, n) -> m.slit(0, n));
        range("slit(MAX, n)", 0, 3, ARGUMENT, (m, n) -> m.slit(MAX, n));
        range("whole(n)", 0, 14, ARGUMENT, (m, n) -> m.whole(n));
        range("meanShade(n)", 0, 7, ARGUMENT, (m, n) -> m.meanShade(n));
        range("missing(n)", 0, 7, ARGUMENT, (m, n) -> m.missing(n));
        for (Edge edge : Edge.values()) {
            Twins.refused(edge, "slit(-1, 0)", ARGUMENT, m -> m.slit(-1, 0));
            Twins.refused(edge, "slit(MIN, 3)", ARGUMENT, m -> m.slit(MIN, 3));
        }
    }

    /** "what if, which changes nothing"; no question saves a state. */
    private static void questions() {
        for (Edge edge : Edge.values()) {
            Twins.onlyAnswers(edge, "worstSeam", MirrorLoom::worstSeam);
            Twins.onlyAnswers(edge, "rowsPossible", MirrorLoom::rowsPossible);
            Twins.onlyAnswers(edge, "firstWrong", MirrorLoom::firstWrong);
            Twins.onlyAnswers(edge, "digest", MirrorLoom::digest);
            Twins.onlyAnswers(edge, "slit of the first", m -> m.slit(0, 3));
            Twins.onlyAnswers(edge, "slit of none", m -> m.slit(MAX, 3));
            for (int n = 0; n < 15; n++) {
                int asked = n;
                Twins.onlyAnswers(edge, "whole(" + n + ")", m -> m.whole(asked));
                Twins.onlyAnswers(edge, "slitsWith(" + (n + 1) + ")", m -> m.slitsWith(asked + 1));
                Twins.onlyAnswers(edge, "missing(" + n % 8 + ")", m -> m.missing(asked % 8));
                Twins.onlyAnswers(edge, "meanShade(" + n % 8 + ")", m -> m.meanShade(asked % 8));
                Twins.onlyAnswers(edge, "color(" + n % 8 + ")", m -> m.color(asked % 8, asked % 6));
            }
            if (wovenRows(edge) > 0) {
                Twins.onlyAnswers(edge, "contrast(0)", m -> m.contrast(0));
            }
            Twins.onlyAnswers(edge, "shuttlesFor(0)", m -> m.shuttlesFor(0));
        }
    }

    private static void text() {
        for (int value : outside(0, 127)) {
            for (Edge edge : Edge.values()) {
                Twins.refused(edge, "type(" + value + ")", ARGUMENT, m -> m.type(value));
            }
        }
        Twins.allowed(Edge.FRESH, "type(0)", m -> m.type(0));
        Twins.allowed(Edge.FRESH, "type(127)", m -> m.type(127));
        Twins.refused(Edge.FULL, "type(0) into a full text", STATE, m -> m.type(0));
        Twins.refused(Edge.FULL, "type(127) into a full text", STATE, m -> m.type(127));
        Twins.onlyAnswers(Edge.FRESH, "clearCommands of an empty text", MirrorLoom::clearCommands);
    }

    private static void undo() {
        Twins.refused(Edge.FRESH, "undo", STATE, m -> m.undo());
        for (Edge edge : Edge.values()) {
            MirrorLoom m = edge.make();
            int states = edge == Edge.FRESH ? 0 : edge == Edge.HALF ? 1 : 4;
            for (int left = states - 1; left >= 0; left--) {
                Due.same(edge + ": undo", m.undo(), left);
            }
            Due.refused(edge + ": undo of an empty stack", m, STATE, m::undo);
        }
    }

    public static void main(String[] args) {
        states();
        begin();
        fill();
        addLot();
        tolerance();
        limits();
        plant();
        weaveAndUnweave();
        sew();
        values();
        questions();
        text();
        undo();
        Due.end("RefusalTest");
    }
}
