/** For each promise: ordinary calls, the edges that the document names, and wrong calls. All answers are by hand. */
public final class PromiseTest {
    private static final Class<IllegalArgumentException> ARGUMENT = IllegalArgumentException.class;
    private static final Class<IndexOutOfBoundsException> INDEX = IndexOutOfBoundsException.class;
    private static final Class<IllegalStateException> STATE = IllegalStateException.class;
    private static final int MIN = Integer.MIN_VALUE;
    private static final int MAX = Integer.MAX_VALUE;
    private static final int MINUS_ZERO = Float.floatToIntBits(-0.0f);
    private static final int[] NO_SHADES = {
        Float.floatToIntBits(100.0f) + 1, MINUS_ZERO + 1, Float.floatToIntBits(-1.0f), 0x7F800000, 0xFF800000, 0x7FC00000,
        0x7F800001, -1, MAX, Float.floatToIntBits(-100.0f)};

    private static int bits(float shade) {
        return Float.floatToIntBits(shade);
    }

    /**
     * Six columns, five rows. On the back: row 0 and 4 have the colors 0 0 0 1 1 0, rows 1 to 3 have 2 2 0 1 1 0.
     * The first lot of color 1 ends within row 2.
     */
    private static MirrorLoom tapestry() {
        MirrorLoom m = new MirrorLoom();
        m.begin(6, 5);
        m.fill(1, 0, 2, 4, 1);
        m.fill(4, 1, 5, 3, 2);
        m.addLot(0, 30, bits(10.0f));
        m.addLot(1, 8, bits(20.0f));
        m.addLot(1, 40, bits(22.5f));
        m.addLot(2, 20, bits(5.0f));
        return m;
    }

    private static MirrorLoom woven(int rows) {
        MirrorLoom m = tapestry();
        m.weave(rows);
        return m;
    }

    /** Four columns, 16 rows, the colors 0 1 1 0 on the back, with yarn for all of it. */
    private static MirrorLoom striped() {
        MirrorLoom m = new MirrorLoom();
        m.begin(4, 16);
        m.fill(1, 0, 2, 15, 1);
        m.addLot(0, 999, bits(1.0f));
        m.addLot(1, 999, bits(2.0f));
        return m;
    }

    private static void promise1() {
        MirrorLoom m = new MirrorLoom();
        Due.wholes("new", m, 8, 6, 0, 0, 0, 0, 0, 0, 0, 0, 0, 0, 0, 3, 0);
        Due.same("NONE", MirrorLoom.NONE, -1);
        Due.same("new: cells of color 0", m.color(0, 0), 48);
        Due.same("new: tolerance", m.setTolerance(0), bits(2.0f));
        Due.refused("new: undo", new MirrorLoom(), STATE, () -> new MirrorLoom().undo());
        Due.same("new: runCommands", m.runCommands(), 0);
    }

    private static void promise2() {
        MirrorLoom m = woven(4);
        m.setLimit(2);
        m.setTolerance(bits(7.0f));
        m.plant(0, 5);
        m.sew(0);
        Due.same("begin", m.begin(20, 16), 4);
        Due.wholes("begin", m, 20, 16, 0, 4, 0, 0, 0, 0, 0, 0, 0, 0, 0, 2, 0);
        Due.same("begin: all of color 0", m.color(0, 0), 320);
        Due.same("begin: what is left", m.lot(0, 2), 12);
        Due.same("begin: not woven", m.cell(19, 0, 1), -1);
        Due.same("begin: tolerance", m.setTolerance(0), bits(7.0f));
        Due.same("begin again", m.begin(1, 1), 0);
        Due.same("begin is undoable", m.undo(), 3);
        Due.same("undo of begin", m.whole(0), 20);
        Due.refused("begin(0, 1)", m, ARGUMENT, () -> m.begin(0, 1));
        Due.refused("begin(21, 1)", m, ARGUMENT, () -> m.begin(21, 1));
        Due.refused("begin(1, 0)", m, ARGUMENT, () -> m.begin(1, 0));
        Due.refused("begin(1, 17)", m, ARGUMENT, () -> m.begin(1, 17));
        Due.refused("begin(MIN, MAX)", m, ARGUMENT, () -> m.begin(MIN, MAX));
        MirrorLoom other = striped();
        other.weave(16);
        other.sew(0);
        other.begin(4, 16);
        other.fill(1, 0, 2, 15, 1);
        other.weave(16);
        Due.same("begin forgets sewn slits", other.whole(7), 0);
    }

    private static void promise3() {
        MirrorLoom m = new MirrorLoom();
        Due.same("fill", m.fill(1, 2, 3, 4, 7), 9);
        Due.same("fill over some", m.fill(3, 4, 7, 5, 7), 9);
        Due.same("fill one", m.fill(0, 0, 0, 0, 1), 1);
        Due.same("fill as it is", m.fill(0, 0, 0, 0, 1), 0);
        Due.same("fill counts", m.color(7, 0), 18);
        Due.same("fill: a corner", m.cell(1, 2, 0), 7);
        Due.same("fill: beside it", m.cell(1, 5, 0), 0);
        Due.same("fill all", m.fill(0, 0, 7, 5, 0), 19);
        Due.refused("fill x = -1", m, INDEX, () -> m.fill(-1, 0, 1, 1, 1));
        Due.refused("fill x = 8", m, INDEX, () -> m.fill(8, 0, 1, 1, 1));
        Due.refused("fill y = -1", m, INDEX, () -> m.fill(0, -1, 1, 1, 1));
        Due.refused("fill y = 6", m, INDEX, () -> m.fill(0, 6, 1, 1, 1));
        Due.refused("fill u = 8", m, INDEX, () -> m.fill(0, 0, 8, 1, 1));
        Due.refused("fill u = -1, color 8", m, INDEX, () -> m.fill(0, 0, -1, 1, 8));
        Due.refused("fill v = 6", m, INDEX, () -> m.fill(0, 0, 1, 6, 1));
        Due.refused("fill v = -1", m, INDEX, () -> m.fill(0, 0, 1, -1, 1));
        Due.refused("fill u < x", m, ARGUMENT, () -> m.fill(2, 0, 1, 1, 1));
        Due.refused("fill v < y", m, ARGUMENT, () -> m.fill(0, 2, 1, 1, 1));
        Due.refused("fill color 8", m, ARGUMENT, () -> m.fill(0, 0, 1, 1, 8));
        Due.refused("fill color -1", m, ARGUMENT, () -> m.fill(0, 0, 1, 1, -1));
        Due.same("fill is undoable", m.undo(), 3);
        Due.same("undo of fill", m.color(7, 0), 18);
    }

    private static void promise4() {
        MirrorLoom m = new MirrorLoom();
        Due.same("addLot", m.addLot(7, 999, bits(100.0f)), 0);
        Due.same("addLot -0.0f", m.addLot(0, 1, MINUS_ZERO), 1);
        Due.lots("addLot", m, 0, 7, 999, 999, bits(100.0f), 0, 1);
        Due.lots("addLot -0.0f", m, 1, 0, 1, 1, MINUS_ZERO, 0, 1);
        Due.refused("addLot color -1", m, ARGUMENT, () -> m.addLot(-1, 1, 0));
        Due.refused("addLot color 8", m, ARGUMENT, () -> m.addLot(8, 1, 0));
        Due.refused("addLot length 0", m, ARGUMENT, () -> m.addLot(0, 0, 0));
        Due.refused("addLot length 1000", m, ARGUMENT, () -> m.addLot(0, 1000, 0));
        for (int shade : NO_SHADES) {
            Due.refused("addLot shade " + shade, m, ARGUMENT, () -> m.addLot(0, 1, shade));
        }
        for (int lot = 2; lot < 16; lot++) {
            Due.same("addLot", m.addLot(1, lot, lot), lot);
        }
        Due.refused("addLot 17th", m, STATE, () -> m.addLot(0, 1, 0));
        Due.refused("addLot 17th, wrong", m, ARGUMENT, () -> m.addLot(0, 0, 0));
        Due.same("addLot is undoable", m.undo(), 3);
        Due.same("undo of addLot", m.whole(3), 15);
    }

    private static void promise5() {
        MirrorLoom m = woven(4);
        Due.same("setTolerance", m.setTolerance(MINUS_ZERO), bits(2.0f));
        Due.same("setTolerance behind -0.0f", m.setTolerance(bits(100.0f)), MINUS_ZERO);
        Due.same("setTolerance behind 100.0f", m.setTolerance(bits(2.5f)), bits(100.0f));
        Due.same("a difference as great as the tolerance", m.whole(10), 0);
        m.setTolerance(bits(2.5f) - 1);
        Due.same("a difference above the tolerance", m.whole(10), 3);
        for (int shade : NO_SHADES) {
            Due.refused("setTolerance " + shade, m, ARGUMENT, () -> m.setTolerance(shade));
        }
        Due.same("setTolerance is undoable", m.undo(), 3);
        Due.same("undo of setTolerance", m.setTolerance(0), bits(2.5f));
    }

    private static void promise6() {
        MirrorLoom m = striped();
        m.weave(5);
        Due.same("setLimit", m.setLimit(1), 3);
        Due.same("setLimit 4", m.setLimit(4), 1);
        Due.same("5 rows are longer than 4", m.whole(6), 2);
        m.sew(1);
        Due.same("setLimit 5", m.setLimit(5), 4);
        Due.same("5 rows are not longer than 5", m.whole(6), 0);
        Due.same("sewn slits are forgotten", m.whole(7), 0);
        Due.same("setLimit 16", m.setLimit(16), 5);
        Due.same("setLimit again", m.setLimit(4), 16);
        Due.slits("a forgotten slit is not sewn", m, 1, 2, 0, 4, 0);
        Due.refused("setLimit 0", m, ARGUMENT, () -> m.setLimit(0));
        Due.refused("setLimit 17", m, ARGUMENT, () -> m.setLimit(17));
        Due.refused("setLimit -1", m, ARGUMENT, () -> m.setLimit(-1));
        Due.same("setLimit is undoable", m.undo(), 3);
        Due.same("undo of setLimit", m.whole(13), 16);
        m.undo();
        m.undo();
        Due.slits("undo remembers what was sewn", m, 1, 2, 0, 4, 1);
    }

    private static void promise7() {
        MirrorLoom m = tapestry();
        Due.same("plant", m.plant(0, 1), 1);
        Due.same("plant the color of the cartoon", m.plant(5, 0), 2);
        Due.same("plant in its place", m.plant(0, 2), 2);
        Due.same("plant", m.whole(4), 2);
        Due.refused("plant b = -1", m, INDEX, () -> m.plant(-1, 9));
        Due.refused("plant b = 6", m, INDEX, () -> m.plant(6, 0));
        Due.refused("plant color -1", m, ARGUMENT, () -> m.plant(0, -1));
        Due.refused("plant color 8", m, ARGUMENT, () -> m.plant(5, 8));
        m.weave(1);
        Due.same("a mistake is woven at its back column", m.cell(5, 0, 1), 2);
        Due.same("mistakes are gone then", m.whole(4), 0);
        Due.same("one of them is wrong", m.row(0, 2), 1);
        m.weave(1);
        Due.same("the next row has none", m.row(1, 2), 0);
        m.undo();
        Due.same("undo of weave", m.undo(), 2);
        Due.same("mistakes are back", m.whole(4), 2);
        m.plant(3, 7);
        Due.same("color 7 has no yarn", m.weave(16), 0);
        Due.same("mistakes stay if no row is woven", m.whole(4), 3);
        m.undo();
        Due.same("plant is undoable", m.undo(), 2);
        Due.same("undo of plant", m.whole(4), 2);
    }

    private static void promise8() {
        MirrorLoom m = tapestry();
        Due.same("weave 1", m.weave(1), 1);
        Due.rowLots("the first row", m, 0, 0, 0, 0, 1, 1, 0);
        Due.same("lot 0 gave 4 cells and 2 runs", m.lot(0, 2), 24);
        Due.same("lot 1 gave 2 cells and 1 run", m.lot(1, 2), 5);
        Due.same("weave 2", m.weave(2), 2);
        Due.rowLots("a lot that ends within a run", m, 2, 3, 3, 0, 1, 2, 0);
        Due.same("lot 1 is at its end", m.lot(1, 2), 0);
        Due.same("weave the rest", m.weave(16), 2);
        Due.rowLots("the last row", m, 4, 0, 0, 0, 2, 2, 0);
        Due.same("weave when all are woven", m.weave(1), 0);
        Due.same("weave saved a state for it", m.undo(), 3);
        Due.refused("weave 0", m, ARGUMENT, () -> m.weave(0));
        Due.refused("weave 17", m, ARGUMENT, () -> m.weave(17));
        Due.refused("weave -1", m, ARGUMENT, () -> m.weave(-1));
        MirrorLoom edge = new MirrorLoom();
        edge.begin(3, 4);
        edge.addLot(0, 4, 0);
        edge.addLot(0, 3, 0);
        Due.same("7 units are enough for one row of 4", edge.weave(4), 1);
        Due.same("all of lot 0", edge.lot(0, 2), 0);
        edge.addLot(0, 1, 0);
        Due.same("4 units of two lots are enough", edge.weave(4), 1);
        Due.rowLots("two lots", edge, 1, 1, 1, 2);
        MirrorLoom run = new MirrorLoom();
        run.begin(2, 2);
        run.addLot(0, 1, 0);
        run.addLot(0, 5, 0);
        run.weave(1);
        Due.rowLots("the run took the only unit of the first lot", run, 0, 1, 1);
    }

    private static void promise9() {
        MirrorLoom m = woven(4);
        m.plant(2, 1);
        Due.same("unweave", m.unweave(2), 12);
        Due.same("rows left", m.whole(2), 2);
        Due.same("planted mistakes stay", m.whole(4), 1);
        Due.same("lot 0 had 12, and gets 4", m.lot(0, 2), 16);
        Due.same("lot 1 gets one back", m.lot(1, 2), 1);
        Due.same("lot 2 had 36, and gets 3", m.lot(2, 2), 39);
        Due.same("lot 1 is in use again", m.lot(1, 5), 1);
        Due.same("not woven now", m.cell(0, 2, 1), -1);
        Due.same("weave again", m.weave(1), 1);
        Due.refused("unweave 4 of 3", m, STATE, () -> m.unweave(4));
        Due.refused("unweave 0", m, ARGUMENT, () -> m.unweave(0));
        Due.refused("unweave 17", m, ARGUMENT, () -> m.unweave(17));
        Due.refused("unweave -1", m, ARGUMENT, () -> m.unweave(-1));
        Due.same("unweave all", m.unweave(3), 18);
        Due.refused("unweave 1 of 0", m, STATE, () -> m.unweave(1));
        Due.same("unweave is undoable", m.undo(), 3);
        Due.same("undo of unweave", m.whole(2), 3);
    }

    private static void promise10() {
        MirrorLoom m = striped();
        m.weave(6);
        Due.same("sew", m.sew(1), 1);
        Due.refused("sew what is sewn", m, STATE, () -> m.sew(1));
        Due.refused("sew -1", m, INDEX, () -> m.sew(-1));
        Due.refused("sew 2 of 2", m, INDEX, () -> m.sew(2));
        Due.refused("sew MAX", m, INDEX, () -> m.sew(MAX));
        Due.same("sewn rows", m.whole(8), 6);
        m.weave(4);
        Due.slits("it became longer", m, 1, 2, 0, 9, 1);
        Due.same("sewn rows of the longer one", m.whole(8), 10);
        m.unweave(6);
        Due.slits("it became shorter", m, 1, 2, 0, 3, 1);
        m.unweave(1);
        Due.same("it is no slit any more", m.whole(7), 0);
        m.weave(1);
        Due.slits("it is forgotten", m, 1, 2, 0, 3, 0);
        Due.same("sew 0", m.sew(0), 1);
        Due.same("sew 1", m.sew(1), 0);
        Due.same("sew is undoable", m.undo(), 3);
        Due.slits("undo of sew", m, 1, 2, 0, 3, 0);
        m.setLimit(1);
        Due.slits("a lower limit keeps it sewn", m, 0, 0, 0, 3, 1);
        Due.same("sewn rows of the first column", m.whole(8), 4);
        m.unweave(3);
        Due.same("the slit of the first column is forgotten", m.whole(7), 0);
        m.weave(3);
        Due.slits("it is not sewn again", m, 0, 0, 0, 3, 0);
        m.unweave(4);
        Due.refused("sew without slits", m, INDEX, () -> m.sew(0));
    }

    private static void promise11() {
        MirrorLoom m = tapestry();
        m.plant(5, 2);
        m.weave(1);
        Due.same("cell: cartoon", m.cell(0, 0, 0), 0);
        Due.same("cell: woven, mirrored", m.cell(0, 0, 1), 2);
        Due.same("cell: lot", m.cell(0, 0, 2), 3);
        Due.same("cell: back column", m.cell(0, 0, 3), 5);
        Due.same("cell: cartoon of the front", m.cell(1, 0, 0), 1);
        Due.same("cell: woven", m.cell(1, 0, 1), 1);
        Due.same("cell: not woven", m.cell(5, 1, 1), -1);
        Due.same("cell: no lot", m.cell(5, 1, 2), -1);
        Due.same("cell: cartoon not woven yet", m.cell(5, 1, 0), 2);
        Due.same("cell: back column of the last", m.cell(5, 4, 3), 0);
        m.fill(0, 0, 0, 0, 6);
        Due.same("cell: the cartoon as it is now", m.cell(0, 0, 0), 6);
        Due.same("cell: woven as it was", m.cell(0, 0, 1), 2);
        m.plant(0, 7);
        m.weave(1);
        Due.same("cell: not woven for want of yarn", m.cell(5, 1, 1), -1);
        Due.refused("cell x = -1", m, INDEX, () -> m.cell(-1, 0, 9));
        Due.refused("cell x = 6", m, INDEX, () -> m.cell(6, 0, 0));
        Due.refused("cell y = -1", m, INDEX, () -> m.cell(0, -1, 0));
        Due.refused("cell y = 5", m, INDEX, () -> m.cell(0, 5, 0));
        Due.refused("cell what = 4", m, ARGUMENT, () -> m.cell(0, 0, 4));
        Due.refused("cell what = -1", m, ARGUMENT, () -> m.cell(0, 4, -1));
    }

    private static void promise12() {
        MirrorLoom m = woven(4);
        Due.rows("row", m, 0, 3, 3, 0, 9, 2);
        Due.rows("color 2 is new", m, 1, 4, 1, 0, 10, 3);
        Due.rows("two lots of color 1", m, 2, 4, 0, 0, 10, 4);
        Due.rows("row", m, 3, 4, 0, 0, 10, 3);
        m.fill(0, 3, 3, 3, 2);
        Due.rows("the cartoon as it is now", m, 3, 4, 0, 4, 10, 3);
        m.plant(1, 2);
        m.plant(4, 2);
        m.weave(1);
        Due.rows("a run beside the shuttle of its color is new", m, 4, 6, 2, 2, 12, 3);
        m.unweave(1);
        Due.refused("row -1", m, INDEX, () -> m.row(-1, 0));
        Due.refused("row not woven", m, INDEX, () -> m.row(4, 9));
        Due.refused("row not there", m, INDEX, () -> m.row(5, 0));
        Due.refused("row what = 5", m, ARGUMENT, () -> m.row(3, 5));
        Due.refused("row what = -1", m, ARGUMENT, () -> m.row(0, -1));
        MirrorLoom slanted = new MirrorLoom();
        slanted.begin(4, 2);
        slanted.fill(0, 0, 1, 0, 1);
        slanted.fill(1, 1, 3, 1, 1);
        slanted.addLot(0, 99, 0);
        slanted.addLot(1, 99, 0);
        slanted.weave(2);
        Due.rows("one cell of the run is enough", slanted, 1, 2, 1, 0, 6, 2);
    }

    private static void promise13() {
        MirrorLoom m = woven(2);
        Due.lots("lot", m, 0, 0, 30, 20, bits(10.0f), 6, 1);
        Due.lots("lot in use", m, 1, 1, 8, 2, bits(20.0f), 4, 1);
        Due.lots("lot not in use", m, 2, 1, 40, 40, bits(22.5f), 0, 0);
        m.weave(1);
        Due.lots("lot at its end", m, 1, 1, 8, 0, bits(20.0f), 5, 0);
        Due.lots("next lot in use", m, 2, 1, 40, 39, bits(22.5f), 1, 1);
        Due.refused("lot -1", m, INDEX, () -> m.lot(-1, 9));
        Due.refused("lot 4", m, INDEX, () -> m.lot(4, 0));
        Due.refused("lot what = 6", m, ARGUMENT, () -> m.lot(3, 6));
        Due.refused("lot what = -1", m, ARGUMENT, () -> m.lot(0, -1));
        for (int shade : new int[] {0, 1, 2, 0x7FFFFF, 0x800000, 0x800001, bits(0.1f), bits(99.99999f)}) {
            m.addLot(3, 5, shade);
            Due.same("lot shade", m.lot(m.whole(3) - 1, 3), shade);
        }
    }

    private static void promise14() {
        MirrorLoom m = woven(2);
        Due.colors("color", m, 0, 14, 6, 20, 1, 4, 14);
        Due.colors("color", m, 1, 10, 4, 42, 2, 2, 9);
        Due.colors("color", m, 2, 6, 2, 17, 1, 1, 6);
        Due.colors("color without yarn", m, 7, 0, 0, 0, 0, 0, 0);
        m.plant(0, 1);
        Due.same("mistakes do not count", m.color(1, 5), 9);
        m.weave(1);
        Due.colors("color with a mistake woven", m, 1, 10, 7, 37, 2, 4, 6);
        Due.refused("color -1", m, ARGUMENT, () -> m.color(-1, 0));
        Due.refused("color 8", m, ARGUMENT, () -> m.color(8, 0));
        Due.refused("color what = -1", m, ARGUMENT, () -> m.color(0, -1));
        Due.refused("color what = 6", m, ARGUMENT, () -> m.color(0, 6));
    }

    private static void promise15() {
        MirrorLoom m = striped();
        Due.same("slit without any", m.slit(0, 0), -1);
        m.fill(0, 5, 3, 5, 0);
        m.fill(1, 12, 1, 12, 0);
        m.weave(16);
        Due.slits("slit", m, 0, 0, 0, 4, 0);
        Due.slits("slit", m, 1, 0, 6, 15, 0);
        Due.slits("slit", m, 2, 2, 0, 4, 0);
        Due.slits("slit", m, 3, 2, 6, 11, 0);
        Due.slits("no slit", m, 4, -1, -1, -1, -1);
        m.sew(3);
        Due.slits("slit sewn", m, 3, 2, 6, 11, 1);
        m.setLimit(1);
        Due.slits("a slit of 3 rows", m, 4, 2, 13, 15, 0);
        Due.same("slit MAX", m.slit(MAX, 0), -1);
        Due.refused("slit -1", m, ARGUMENT, () -> m.slit(-1, 0));
        Due.refused("slit what = 4", m, ARGUMENT, () -> m.slit(0, 4));
        Due.refused("slit what = -1", m, ARGUMENT, () -> m.slit(9, -1));
    }

    private static void promise16() {
        MirrorLoom m = woven(4);
        m.setLimit(2);
        m.sew(0);
        m.plant(0, 1);
        m.fill(0, 0, 0, 1, 5);
        m.type('x');
        Due.wholes("whole", m, 6, 5, 4, 4, 1, 2, 3, 1, 3, 3, 3, 4, 4, 2, 1);
        m.sew(2);
        Due.same("rows of all sewn slits", m.whole(8), 7);
        Due.refused("whole -1", m, ARGUMENT, () -> m.whole(-1));
        Due.refused("whole 15", m, ARGUMENT, () -> m.whole(15));
    }

    private static void promise17() {
        MirrorLoom m = woven(3);
        Due.sameShade("meanShade", m.meanShade(1), (20f + 20f + 20f + 20f + 20f + 22.5f) / 6f);
        Due.sameShade("meanShade without cells", m.meanShade(7), 0.0f);
        m.plant(0, 1);
        m.weave(1);
        Due.sameShade("meanShade goes by the woven color", m.meanShade(1), (100f + 4 * 22.5f) / 9f);
        Due.refused("meanShade -1", m, ARGUMENT, () -> m.meanShade(-1));
        Due.refused("meanShade 8", m, ARGUMENT, () -> m.meanShade(8));
        MirrorLoom order = new MirrorLoom();
        order.begin(3, 2);
        order.addLot(0, 3, bits(100.0f));
        order.addLot(0, 1, bits(0.000004f));
        order.addLot(0, 99, bits(0.000003f));
        order.weave(2);
        float sum = 0.0f + 100f + 100f + 0.000004f;
        sum = sum + 0.000003f + 0.000003f + 0.000003f;
        Due.sameShade("meanShade adds in the order of the back", order.meanShade(0), sum / 6f);
        MirrorLoom one = new MirrorLoom();
        one.begin(1, 1);
        one.addLot(0, 2, bits(1.75f));
        one.weave(1);
        Due.sameShade("meanShade of one cell", one.meanShade(0), 1.75f);
        MirrorLoom tiny = new MirrorLoom();
        tiny.addLot(0, 99, 1);
        tiny.weave(1);
        Due.same("meanShade of the least float", tiny.meanShade(0), 1);
        MirrorLoom zero = new MirrorLoom();
        zero.addLot(0, 99, MINUS_ZERO);
        zero.weave(1);
        Due.same("meanShade of -0.0f, from 0.0f on", zero.meanShade(0), 0);
    }

    private static void promise18() {
        MirrorLoom m = woven(3);
        Due.sameShade("contrast", m.contrast(0), 20f / 5f);
        Due.sameShade("contrast", m.contrast(2), (0f + 5f + 10f + 2.5f + 12.5f) / 5f);
        Due.refused("contrast -1", m, INDEX, () -> m.contrast(-1));
        Due.refused("contrast not woven", m, INDEX, () -> m.contrast(3));
        Due.refused("contrast not there", m, INDEX, () -> m.contrast(5));
        m.begin(1, 1);
        m.weave(1);
        Due.sameShade("contrast of one column", m.contrast(0), 0.0f);
        MirrorLoom pair = new MirrorLoom();
        pair.begin(2, 1);
        pair.addLot(0, 2, bits(1.0f));
        pair.addLot(0, 1, bits(1.25f));
        pair.weave(1);
        Due.sameShade("contrast of two columns", pair.contrast(0), 0.25f);
        Due.sameShade("a seam of the first two cells", pair.worstSeam(), 0.25f);
        Due.same("one seam", pair.whole(9), 1);
        MirrorLoom order = new MirrorLoom();
        order.begin(4, 1);
        order.fill(2, 0, 2, 0, 1);
        order.fill(1, 0, 1, 0, 2);
        order.fill(0, 0, 0, 0, 3);
        order.addLot(0, 9, bits(0.1f));
        order.addLot(1, 9, bits(99.3f));
        order.addLot(2, 9, bits(0.7f));
        order.addLot(3, 9, bits(0.70001f));
        order.weave(1);
        float sum = 0.0f + (99.3f - 0.1f) + (99.3f - 0.7f) + (0.70001f - 0.7f);
        Due.sameShade("contrast adds in the order of the back", order.contrast(0), sum / 3f);
    }

    private static void promise19() {
        MirrorLoom m = woven(2);
        Due.sameShade("worstSeam without any", m.worstSeam(), 0.0f);
        m.weave(1);
        Due.sameShade("worstSeam", m.worstSeam(), 2.5f);
        MirrorLoom column = new MirrorLoom();
        column.begin(1, 2);
        column.addLot(0, 2, bits(3.0f));
        column.addLot(0, 2, bits(2.75f));
        column.weave(2);
        Due.sameShade("worstSeam in the first column", column.worstSeam(), 0.25f);
        Due.same("one seam in a column", column.whole(9), 1);
        MirrorLoom down = new MirrorLoom();
        down.begin(2, 3);
        down.addLot(0, 3, bits(50.0f));
        down.addLot(0, 3, bits(40.5f));
        down.addLot(0, 3, bits(60.75f));
        down.weave(3);
        Due.sameShade("worstSeam in a column", down.worstSeam(), 20.25f);
        Due.same("seams", down.whole(9), 4);
        MirrorLoom alike = new MirrorLoom();
        alike.begin(2, 1);
        alike.addLot(0, 2, MINUS_ZERO);
        alike.addLot(0, 2, 0);
        alike.weave(1);
        Due.same("a seam of equal shades", alike.whole(9), 1);
        Due.same("worstSeam of -0.0f and 0.0f", alike.worstSeam(), 0);
        alike.setTolerance(MINUS_ZERO);
        Due.same("it cannot be seen", alike.whole(10), 0);
    }

    private static void promise20() {
        MirrorLoom m = tapestry();
        Due.same("rowsPossible", m.rowsPossible(), 5);
        m.plant(0, 7);
        Due.same("rowsPossible without mistakes", m.rowsPossible(), 5);
        m.fill(0, 3, 0, 3, 6);
        Due.same("rowsPossible up to a color without yarn", m.rowsPossible(), 3);
        m.undo();
        m.undo();
        m.weave(2);
        Due.same("rowsPossible of the rest", m.rowsPossible(), 3);
        m.weave(3);
        Due.same("rowsPossible at the end", m.rowsPossible(), 0);
        Due.same("rowsPossible without lots", new MirrorLoom().rowsPossible(), 0);
        MirrorLoom edge = new MirrorLoom();
        edge.addLot(0, 18, 0);
        Due.same("18 units are 2 rows of 9", edge.rowsPossible(), 2);
        edge.weave(1);
        Due.same("9 units are left for 1 row", edge.rowsPossible(), 1);
        MirrorLoom under = new MirrorLoom();
        under.addLot(0, 17, 0);
        Due.same("17 units are 1 row of 9", under.rowsPossible(), 1);
    }

    private static void promise21() {
        MirrorLoom m = new MirrorLoom();
        Due.same("missing", m.missing(0), 54);
        m.addLot(0, 53, 0);
        Due.same("missing 1", m.missing(0), 1);
        m.plant(0, 1);
        Due.same("missing without mistakes", m.missing(1), 0);
        m.addLot(0, 100, 0);
        Due.same("missing nothing", m.missing(0), 0);
        m.fill(3, 0, 4, 5, 2);
        Due.same("missing color 2", m.missing(2), 18);
        m.undo();
        m.undo();
        m.undo();
        m.weave(3);
        Due.same("missing for the rest", m.missing(0), 1);
        Due.refused("missing -1", m, ARGUMENT, () -> m.missing(-1));
        Due.refused("missing 8", m, ARGUMENT, () -> m.missing(8));
    }

    private static void promise22() {
        MirrorLoom m = woven(4);
        Due.same("slitsWith 1", m.slitsWith(1), 3);
        Due.same("slitsWith 2", m.slitsWith(2), 3);
        Due.same("slitsWith 3", m.slitsWith(3), 2);
        Due.same("slitsWith 4", m.slitsWith(4), 0);
        Due.same("slitsWith 16", m.slitsWith(16), 0);
        m.sew(0);
        m.slitsWith(16);
        Due.same("slitsWith changes nothing", m.whole(7), 1);
        Due.refused("slitsWith 0", m, ARGUMENT, () -> m.slitsWith(0));
        Due.refused("slitsWith 17", m, ARGUMENT, () -> m.slitsWith(17));
        MirrorLoom high = striped();
        high.weave(16);
        Due.same("16 rows are longer than 15", high.slitsWith(15), 2);
        Due.same("16 rows are not longer than 16", high.slitsWith(16), 0);
    }

    private static void promise23() {
        MirrorLoom m = woven(4);
        Due.same("firstWrong without any", m.firstWrong(), -1);
        m.fill(5, 4, 5, 4, 6);
        Due.same("firstWrong: a row that is not woven", m.firstWrong(), -1);
        m.fill(5, 3, 5, 3, 6);
        Due.same("firstWrong", m.firstWrong(), 3);
        m.fill(0, 0, 0, 0, 6);
        Due.same("firstWrong 0", m.firstWrong(), 0);
        m.unweave(4);
        Due.same("firstWrong behind unweave", m.firstWrong(), -1);
    }

    private static void promise24() {
        MirrorLoom m = tapestry();
        m.plant(0, 1);
        Due.same("shuttlesFor 0", m.shuttlesFor(0), 3);
        Due.same("shuttlesFor 1", m.shuttlesFor(1), 4);
        Due.same("shuttlesFor 4", m.shuttlesFor(4), 3);
        m.weave(5);
        m.fill(0, 0, 5, 0, 3);
        Due.same("shuttlesFor a woven row, by the cartoon", m.shuttlesFor(0), 1);
        Due.refused("shuttlesFor -1", m, INDEX, () -> m.shuttlesFor(-1));
        Due.refused("shuttlesFor 5", m, INDEX, () -> m.shuttlesFor(5));
    }

    private static void promise25() {
        MirrorLoom m = new MirrorLoom();
        Due.same("type 0", m.type(0), 1);
        Due.same("type 127", m.type(127), 2);
        Due.refused("type -1", m, ARGUMENT, () -> m.type(-1));
        Due.refused("type 128", m, ARGUMENT, () -> m.type(128));
        Due.refused("type is not undoable", m, STATE, () -> m.undo());
        for (int k = 3; k <= 150; k++) {
            Due.same("type", m.type(' '), k);
        }
        Due.refused("type the 151st", m, STATE, () -> m.type(' '));
        Due.refused("type a wrong 151st", m, ARGUMENT, () -> m.type(128));
        m.begin(1, 1);
        m.clearCommands();
        m.undo();
        Due.same("undo leaves the text", m.whole(14), 0);
    }

    private static void promise26() {
        MirrorLoom m = new MirrorLoom();
        Due.same("clearCommands without any", m.clearCommands(), 0);
        Hands.type(m, "weave");
        Due.same("clearCommands", m.clearCommands(), 5);
        Due.same("clearCommands again", m.clearCommands(), 0);
        Due.refused("clearCommands is not undoable", m, STATE, () -> m.undo());
        Due.same("type behind clearCommands", m.type('w'), 1);
    }

    private static void promise27Faults() {
        String[] texts = {
            "", "   ", "weave 1;", " weave  001 ;  ", "weave 1;weave 1;", "cloth 5 5;", "fill 0 0 1 1 1;", "lot 1 2 3;",
            "slip 0 1 ;", "limit 2;", "limit 17;", "cloth 0 0;"};
        for (String text : texts) {
            Due.same("no fault in \"" + text + "\"", Math.min(0, Hands.run(new MirrorLoom(), text)), 0);
        }
        Object[][] faults = {
            {";", 0}, {" ;", 1}, {"1", 0}, {"Weave 1;", 0}, {"weaver 1;", 0}, {"weave 1;weav", 8}, {"  weav", 2},
            {"weAve 1;", 0}, {"undo", 4}, {"undo;", 4}, {"undo1;", 4}, {"undo ;", 5}, {"undo  ", 6}, {"undo 1", 6},
            {"undo 1 ", 7}, {"undo 1234;", 8}, {"undo 1 2;", 7}, {"undo 1,", 6}, {"undo -1;", 5}, {"cloth 1;", 7},
            {"cloth 1 ;", 8}, {"cloth 1x1;", 7}, {"cloth 1 2 3;", 10}, {"fill 0 0 1 1;", 12}, {"lot 0 1 2 ", 10},
            {"limit 1;;", 8}, {"limit 1;a", 8}, {"limit 1; sews 1;", 9}, {"limit 1;9", 8}, {"limit\t1;", 5},
            {"limit 1;\n", 8}, {"limit 1; undo", 13}, {"sew 1:", 5}, {"sew /;", 4}, {"x y", 0}, {"`", 0}, {"{", 0},
            {"w", 0}, {"sew ;sew 1;", 4}, {"sew ;x", 4}, {"xew 1;", 0}, {"limit 0001;", 9}, {"z1", 0}};
        for (Object[] fault : faults) {
            MirrorLoom m = new MirrorLoom();
            Due.same("fault of \"" + fault[0] + "\"", Hands.run(m, (String) fault[0]), -10 - (Integer) fault[1]);
            Due.same("limit behind a fault", m.whole(13), 3);
            Due.refused("a fault is not undoable", m, STATE, () -> m.undo());
        }
    }

    private static void promise27() {
        promise27Faults();
        MirrorLoom m = new MirrorLoom();
        String text = "cloth 6 5; fill 1 0 2 4 1;lot 0 40 10; lot 1 40 020;slip 5 1 ;weave 4;undo 1;limit 2;sew 0;";
        Due.same("runCommands", Hands.run(m, text), 9);
        Due.wholes("runCommands", m, 6, 5, 3, 2, 0, 1, 1, 1, 3, 0, 0, 3, 3, 2, text.length());
        Due.same("shade of a lot of commands", m.lot(1, 3), bits(20.0f));
        Due.same("a run saves one state", m.undo(), 0);
        Due.wholes("undo of a run leaves the text", m, 8, 6, 0, 0, 0, 0, 0, 0, 0, 0, 0, 0, 0, 3, text.length());
        Due.same("the text can run again", m.runCommands(), 9);
        Due.same("the second command would throw", Hands.run(m, "limit 5;weave 0;limit 6;"), 1);
        Due.same("what was ahead of it stays", m.whole(13), 5);
        Object[][] refused = {
            {"cloth 21 1;", 0}, {"fill 0 0 9 0 1;", 0}, {"fill 1 0 0 0 1;", 0}, {"lot 8 1 1;", 0}, {"lot 0 0 1;", 0},
            {"lot 0 1 101;", 0}, {"lot 0 1 100;", 1}, {"lot 0 999 0;", 1}, {"undo 4;", 0}, {"undo 17;", 0}, {"slip 6 0;", 0},
            {"slip 0 8;", 0}, {"sew 99;", 0}, {"limit 0;", 0}, {"limit 16;", 1}, {"weave 17;", 0}, {"weave 16;", 1}};
        for (Object[] pair : refused) {
            Due.same("run of \"" + pair[0] + "\"", Hands.run(m, (String) pair[0]), (Integer) pair[1]);
        }
        MirrorLoom twice = striped();
        twice.weave(4);
        Due.same("the second sew would throw", Hands.run(twice, "sew 0;sew 0;"), 1);
        MirrorLoom empty = new MirrorLoom();
        Due.same("an empty text", empty.runCommands(), 0);
        Due.same("it saves a state, too", empty.undo(), 0);
        MirrorLoom full = new MirrorLoom();
        StringBuilder longest = new StringBuilder();
        for (int k = 0; k < 18; k++) {
            longest.append("limit 4;");
        }
        Due.same("the longest text", Hands.run(full, longest + "  x   "), -10 - 146);
        Due.same("18 commands", Hands.run(full, longest.toString()), 18);
    }

    private static void promise28() {
        MirrorLoom m = new MirrorLoom();
        for (int limit = 4; limit <= 8; limit++) {
            m.setLimit(limit);
        }
        Due.same("undo 1", m.undo(), 3);
        Due.same("limit", m.whole(13), 7);
        Due.same("undo 2", m.undo(), 2);
        m.setLimit(16);
        Due.same("undo 3", m.undo(), 2);
        Due.same("limit", m.whole(13), 6);
        Due.same("undo 4", m.undo(), 1);
        Due.same("undo 5", m.undo(), 0);
        Due.same("older states are dropped", m.whole(13), 4);
        Due.refused("undo without states", m, STATE, () -> m.undo());
        MirrorLoom all = tapestry();
        all.weave(4);
        all.sew(0);
        all.plant(1, 1);
        long before = all.digest();
        all.begin(3, 3);
        all.addLot(5, 5, 5);
        all.setLimit(1);
        all.setTolerance(0);
        all.undo();
        all.undo();
        all.undo();
        all.undo();
        all.begin(4, 4);
        all.undo();
        Due.refused("all states are used up", all, STATE, () -> all.undo());
        MirrorLoom again = tapestry();
        again.weave(4);
        again.sew(0);
        again.plant(1, 1);
        again.fill(0, 0, 5, 4, 3);
        again.undo();
        Due.same("the whole state is back, but the stack is shorter", again.digest() != before ? 1 : 0, 1);
        again.undo();
        again.plant(1, 1);
        again.weave(1);
        again.undo();
        Due.same("mistakes and sewn slits are back", again.whole(4) * 10 + again.whole(7), 11);
        MirrorLoom other = woven(1);
        other.unweave(1);
        other.plant(0, 2);
        other.weave(1);
        Due.same("woven again with a mistake", other.cell(5, 0, 2), 3);
        other.undo();
        other.undo();
        Due.same("undo gives the yarn back", other.lot(0, 2), 28);
        other.undo();
        Due.same("the first color is back", other.cell(5, 0, 1), 0);
        Due.same("the first lot is back", other.cell(5, 0, 2), 0);
        Due.same("what was left is back", other.lot(0, 2), 24);
        MirrorLoom nothing = new MirrorLoom();
        nothing.setLimit(3);
        nothing.fill(0, 0, 0, 0, 0);
        nothing.weave(1);
        nothing.setTolerance(bits(2.0f));
        nothing.plant(0, 0);
        Due.same("calls that change nothing are saved, too", nothing.undo(), 3);
    }

    /** The digest again, of what the face answers. */
    private static long digestOf(MirrorLoom m, int states) {
        long h = 31L * 43346 + states;
        for (int what = 0; what <= 14; what++) {
            h = 31 * h + m.whole(what);
        }
        for (int y = 0; y < m.whole(1); y++) {
            for (int x = 0; x < m.whole(0); x++) {
                h = ((h * 31 + m.cell(x, y, 0)) * 31 + m.cell(x, y, 1)) * 31 + m.cell(x, y, 2);
            }
        }
        for (int y = 0; y < m.whole(2); y++) {
            for (int what = 0; what <= 4; what++) {
                h = 31 * h + m.row(y, what);
            }
            h = 31 * h + m.contrast(y);
        }
        for (int lot = 0; lot < m.whole(3); lot++) {
            for (int what = 0; what <= 5; what++) {
                h = 31 * h + m.lot(lot, what);
            }
        }
        for (int color = 0; color <= 7; color++) {
            for (int what = 0; what <= 5; what++) {
                h = 31 * h + m.color(color, what);
            }
            h = 31 * h + m.meanShade(color);
        }
        for (int slit = 0; slit < m.whole(6); slit++) {
            for (int what = 0; what <= 3; what++) {
                h = 31 * h + m.slit(slit, what);
            }
        }
        return 31 * h + m.worstSeam();
    }

    private static void promise29() {
        MirrorLoom m = new MirrorLoom();
        Due.same("digest of a new object", m.digest(), digestOf(m, 0));
        m.setLimit(2);
        Due.same("digest counts the saved states", m.digest(), digestOf(m, 1));
        MirrorLoom w = woven(4);
        w.addLot(7, 7, MINUS_ZERO);
        w.plant(0, 3);
        w.fill(0, 0, 0, 0, 5);
        Due.same("digest", w.digest(), digestOf(w, 4));
        w.setLimit(2);
        w.sew(1);
        w.type('x');
        Due.same("digest with slits", w.digest(), digestOf(w, 4));
        MirrorLoom s = striped();
        s.weave(7);
        s.sew(0);
        Due.same("digest with a slit of the first column", s.digest(), digestOf(s, 4));
        long before = w.digest();
        w.clearCommands();
        w.type('y');
        Due.same("digest knows the length of the text alone", w.digest(), before);
    }

    public static void main(String[] args) {
        promise1();
        promise2();
        promise3();
        promise4();
        promise5();
        promise6();
        promise7();
        promise8();
        promise9();
        promise10();
        promise11();
        promise12();
        promise13();
        promise14();
        promise15();
        promise16();
        promise17();
        promise18();
        promise19();
        promise20();
        promise21();
        promise22();
        promise23();
        promise24();
        promise25();
        promise26();
        promise27();
        promise28();
        promise29();
        Due.end("PromiseTest");
    }
}
