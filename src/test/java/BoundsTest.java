import java.math.BigInteger;

/**
 * The answers of each promise at its bounds: the first and the last place of the cartoon, of lots, of colors, of slits
 * and of rows; nothing woven and all woven; none and as many as there can be. All answers are by hand.
 */
public final class BoundsTest {
    private static final Class<IllegalStateException> STATE = IllegalStateException.class;
    private static final int MINUS_ZERO = Hands.bits(-0.0f);

    private BoundsTest() {
    }

    /**
     * Promise 1: "8 columns and 6 rows without lots, with nothing woven, .. an empty command text and an empty undo
     * stack".
     */
    private static void newObject() {
        MirrorLoom m = Edge.FRESH.make();
        Due.wholes("new", m, 8, 6, 0, 0, 0, 0, 0, 0, 0, 0, 0, 0, 0, 3, 0);
        Due.colors("new", m, 0, 48, 0, 0, 0, 0, 54);
        Due.colors("new", m, 7, 0, 0, 0, 0, 0, 0);
        Due.same("new: tolerance", m.setTolerance(0), Hands.bits(2.0f));
        MirrorLoom used = Edge.FULL.make();
        Due.same("objects know nothing of each other", new MirrorLoom().whole(3) + used.whole(3), 16);
    }

    /**
     * Promise 2: "of color 0, with nothing woven and no mistakes planted; lots, with what is left of them, .. stay".
     */
    private static void begin() {
        MirrorLoom m = Edge.FULL.make();
        Due.same("16 rows were woven", m.begin(1, 1), 16);
        Due.wholes("begin(1, 1)", m, 1, 1, 0, 16, 0, 0, 0, 0, 0, 0, 0, 0, 0, 3, 150);
        Due.lots("what is left stays", m, 15, 1, 40, 0, Hands.bits(15.5f), 0, 0);
        Due.same("none was woven", m.begin(20, 16), 0);
        Due.same("all is of color 0", m.color(0, 0), 320);
        Due.same("the tolerance stays", m.setTolerance(0), Hands.bits(1.0f));
        MirrorLoom half = Edge.HALF.make();
        Due.same("4 rows were woven", half.begin(6, 5), 4);
        Due.wholes("the same size", half, 6, 5, 0, 4, 0, 0, 0, 0, 0, 0, 0, 0, 0, 2, 19);
        Due.same("the same size: all is of color 0", half.color(0, 0), 30);
        half.weave(1);
        Due.rowColors("no mistake is planted", half, 0, 0, 0, 0, 0, 0, 0);
        Due.same("one row was woven", half.begin(5, 6), 1);
    }

    /**
     * Promise 2, a smaller cartoon behind the largest one, each width of it: nothing of the woven larger one is seen.
     */
    private static void smallerCartoon() {
        for (int columns = 1; columns <= 20; columns++) {
            int rows = Math.min(columns, 16);
            MirrorLoom m = new MirrorLoom();
            m.begin(20, 16);
            for (int y = 0; y < 16; y++) {
                m.fill(y, y, 19, y, 1);
            }
            for (int lot = 0; lot < 15; lot++) {
                m.addLot(lot % 2, 17 + lot, Hands.bits(6.5f * lot));
            }
            m.addLot(5, 999, 0);
            Due.same("rows of the larger one", m.weave(16) > 4 ? 1 : 0, 1);
            m.begin(columns, rows);
            m.fill(0, 0, columns - 1, rows - 1, 5);
            Due.same("all rows of the smaller one", m.weave(16), rows);
            String name = columns + " columns behind 20";
            int cells = columns * rows;
            Due.wholes(name, m, columns, rows, rows, 16, 0, 0, 0, 0, 0, 0, 0, 1, 1, 3, 0);
            Due.colors(name, m, 5, cells, cells, 999 - cells - rows, 1, rows, 0);
            Due.rows(name, m, rows - 1, 1, rows == 1 ? 1 : 0, 0, columns + 1, 1);
            Due.same(name + ": a lot of the larger one", m.lot(0, 4) + m.lot(14, 4), 0);
            Due.same(name + ": slits of each length", m.slitsWith(1), 0);
            Due.same(name + ": shades", m.contrast(0) + m.worstSeam() + m.meanShade(0) + m.meanShade(5), 0);
            Due.same(name + ": no wrong row", m.firstWrong(), -1);
        }
    }

    /**
     * Promise 3: a rectangle of one cell in each corner, of a row, of a column and of all; "the number of cells whose
     * color was another one".
     */
    private static void fill() {
        MirrorLoom m = new MirrorLoom();
        m.begin(20, 16);
        Due.same("the first cell", m.fill(0, 0, 0, 0, 1), 1);
        Due.same("the last column of the first row", m.fill(19, 0, 19, 0, 2), 1);
        Due.same("the first column of the last row", m.fill(0, 15, 0, 15, 3), 1);
        Due.same("the last cell", m.fill(19, 15, 19, 15, 4), 1);
        Due.same("corners", m.cell(0, 0, 0) * 1000 + m.cell(19, 0, 0) * 100 + m.cell(0, 15, 0) * 10 + m.cell(19, 15, 0), 1234);
        Due.same("nothing beside them", m.color(0, 0), 316);
        Due.same("none is another one", m.fill(19, 15, 19, 15, 4), 0);
        Due.same("a row", m.fill(0, 15, 19, 15, 5), 20);
        Due.same("a column", m.fill(19, 0, 19, 15, 5), 15);
        Due.same("all", m.fill(0, 0, 19, 15, 7), 320);
        Due.same("all as they are", m.fill(0, 0, 19, 15, 7), 0);
        Due.same("all of color 0", m.fill(0, 0, 19, 15, 0), 320);
        MirrorLoom full = Edge.FULL.make();
        Due.same("half of the cells", full.fill(0, 0, 19, 15, 1), 160);
        Due.same("woven cells stay", full.color(0, 1), 160);
    }

    /** Promise 4: "Returns the number of the lot." (and promise 13 at the first and the last lot). */
    private static void lots() {
        MirrorLoom m = Edge.LOTS.make();
        Due.lots("the first of 16", m, 0, 0, 1, 1, Hands.bits(0.0f), 0, 1);
        Due.lots("the last of 16", m, 15, 7, 999, 999, Hands.bits(100.0f), 0, 0);
        m.undo();
        m.undo();
        Due.same("the last one again", m.addLot(6, 5, MINUS_ZERO), 15);
        Due.lots("the last one again", m, 15, 6, 5, 5, MINUS_ZERO, 0, 0);
        MirrorLoom full = Edge.FULL.make();
        Due.lots("the first lot of a full cartoon", full, 0, 0, 40, 0, Hands.bits(0.5f), 20, 0);
        Due.lots("the last lot of a full cartoon", full, 15, 1, 40, 0, Hands.bits(15.5f), 20, 0);
        full.unweave(1);
        Due.lots("the last lot, a row unwoven", full, 15, 1, 40, 10, Hands.bits(15.5f), 10, 1);
        MirrorLoom least = Edge.LEAST.make();
        Due.lots("its run took all of it", least, 0, 7, 1, 0, MINUS_ZERO, 0, 0);
        Due.lots("its cell took all of it", least, 1, 7, 1, 0, 1, 1, 0);
        MirrorLoom undone = new MirrorLoom();
        undone.addLot(1, 1, 5);
        undone.undo();
        Due.same("number of the first lot, again", undone.addLot(2, 3, 4), 0);
        Due.lots("the first lot, again", undone, 0, 2, 3, 3, 4, 0, 1);
    }

    /** Promise 5: "Returns the bits of the previous tolerance", at both ends and at both zeros. */
    private static void tolerance() {
        MirrorLoom m = new MirrorLoom();
        int[] shades = {0, MINUS_ZERO, 1, Hands.bits(100.0f), Hands.bits(100.0f) - 1, 0x007FFFFF, 0x00800000};
        int before = Hands.bits(2.0f);
        for (int shade : shades) {
            Due.same("the tolerance before", m.setTolerance(shade), before);
            before = shade;
        }
        Due.same("the last one", m.setTolerance(0), before);
    }

    /** Promises 6 and 22: each limit. */
    private static void limits() {
        MirrorLoom m = Hands.twoColumns(16);
        int before = 3;
        for (int limit = 1; limit <= 16; limit++) {
            Due.same("the limit before", m.setLimit(limit), before);
            Due.same("the limit", m.whole(13), limit);
            Due.same("slits", m.whole(6), limit < 16 ? 1 : 0);
            Due.same("slitsWith", m.slitsWith(limit), limit < 16 ? 1 : 0);
            before = limit;
        }
        Due.same("slitsWith(1), with the limit 16", m.slitsWith(1), 1);
        m.unweave(14);
        Due.same("2 rows, 1 as limit", m.slitsWith(1), 1);
        Due.same("2 rows, 2 as limit", m.slitsWith(2), 0);
        m.unweave(1);
        Due.same("1 row", m.slitsWith(1), 0);
        Due.same("none without rows", new MirrorLoom().slitsWith(1), 0);
        Due.same("19 of a full cartoon, 15 as limit", Edge.FULL.make().slitsWith(15), 19);
        Due.same("none of a full cartoon, 16 as limit", Edge.FULL.make().slitsWith(16), 0);
    }

    /** Promise 7: "the number of mistakes that are planted", from 1 to all columns. */
    private static void plant() {
        MirrorLoom m = Hands.plain(1, 1, 9);
        Due.same("the only column", m.plant(0, 7), 1);
        Due.same("the only column again", m.plant(0, 0), 1);
        MirrorLoom full = Edge.FULL.make();
        Due.same("all are woven", full.plant(19, 7), 1);
        Due.same("the first column", full.plant(0, 0), 2);
    }

    /** Promise 8: "the number of rows that were woven by this call": none, one, less than asked for, as many. */
    private static void weave() {
        Due.same("no lot", new MirrorLoom().weave(16), 0);
        Due.same("all are woven", Edge.FULL.make().weave(16), 0);
        Due.same("the last one is not", Edge.HALF.make().weave(16), 1);
        MirrorLoom m = Hands.plain(20, 16, 999);
        Due.same("one", m.weave(1), 1);
        Due.same("14", m.weave(14), 14);
        Due.same("less than asked for", m.weave(2), 1);
        Due.same("16", Hands.plain(20, 16, 999).weave(16), 16);
    }

    /** Promise 9: "the number of units that went back to lots". */
    private static void unweave() {
        Due.same("the least", Edge.LEAST.make().unweave(1), 1);
        Due.same("one row", Edge.FULL.make().unweave(1), 20);
        MirrorLoom m = Edge.FULL.make();
        Due.same("all", m.unweave(16), 320);
        Due.lots("the first lot", m, 0, 0, 40, 20, Hands.bits(0.5f), 0, 1);
        Due.lots("the last lot", m, 15, 1, 40, 20, Hands.bits(15.5f), 0, 0);
        Due.same("no row", m.whole(2), 0);
        Due.same("no slit", m.whole(6) + m.whole(7) + m.whole(8), 0);
    }

    /** Promise 10: "the number of slits that are not sewn then", down to 0. */
    private static void sew() {
        MirrorLoom m = Edge.FULL.make();
        for (int index = 1; index <= 17; index++) {
            Due.same("sew", m.sew(index), 17 - index);
        }
        Due.same("all are sewn", m.whole(7), 19);
        Due.same("rows of all", m.whole(8), 304);
        Due.refused("sew the last one again", m, STATE, () -> m.sew(18));
    }

    /** Promise 11, in the corners: "NONE if it is not woven". */
    private static void cells() {
        MirrorLoom m = Edge.FULL.make();
        cell(m, 0, 0, 0, 0, 0, 19);
        cell(m, 19, 0, 1, 1, 1, 0);
        cell(m, 0, 15, 0, 0, 14, 19);
        cell(m, 19, 15, 1, 1, 15, 0);
        m.unweave(1);
        cell(m, 0, 15, 0, -1, -1, 19);
        cell(m, 19, 15, 1, -1, -1, 0);
        cell(m, 19, 14, 1, 1, 15, 0);
        cell(Edge.FRESH.make(), 7, 5, 0, -1, -1, 0);
        cell(Edge.LEAST.make(), 0, 0, 7, 7, 1, 0);
    }

    private static void cell(MirrorLoom m, int x, int y, int... want) {
        for (int what = 0; what < want.length; what++) {
            Due.same("cell(" + x + ", " + y + ", " + what + ")", m.cell(x, y, what), want[what]);
        }
    }

    /** Promise 12, in the first and the last row; "number of different lots of its cells", from 1 to 16. */
    private static void rows() {
        MirrorLoom m = Edge.FULL.make();
        Due.rows("the first row", m, 0, 20, 20, 0, 40, 2);
        Due.rows("the last row", m, 15, 20, 0, 0, 40, 2);
        m.fill(0, 15, 19, 15, 1);
        Due.rows("half of the last row is wrong", m, 15, 20, 0, 10, 40, 2);
        m.fill(0, 15, 19, 15, 2);
        Due.rows("all of the last row is wrong", m, 15, 20, 0, 20, 40, 2);
        Due.rows("the least row", Edge.LEAST.make(), 0, 1, 1, 0, 2, 1);
        MirrorLoom lots = Hands.plain(15, 1, 1, 1, 1, 1, 1, 1, 1, 1, 1, 1, 1, 1, 1, 1, 1, 1);
        lots.weave(1);
        Due.rows("a lot for each cell", lots, 0, 1, 1, 0, 16, 15);
        MirrorLoom all = Hands.plain(16, 1, 2, 1, 1, 1, 1, 1, 1, 1, 1, 1, 1, 1, 1, 1, 1, 1);
        all.weave(1);
        Due.rows("16 lots", all, 0, 1, 1, 0, 17, 16);
        Due.same("the first of 16", all.lot(0, 4), 1);
        Due.same("the last of 16", all.lot(15, 4), 1);
    }

    /** Promise 14, of the first and the last color; nothing woven and all woven; "(mistakes do not count)". */
    private static void colors() {
        MirrorLoom m = Edge.FULL.make();
        Due.colors("all woven", m, 0, 160, 160, 0, 8, 160, 0);
        Due.colors("all woven", m, 1, 160, 160, 0, 8, 160, 0);
        m.fill(0, 0, 19, 15, 7);
        Due.colors("woven rows need nothing", m, 7, 320, 0, 0, 0, 0, 0);
        m.unweave(1);
        Due.colors("the last row needs one run", m, 7, 320, 0, 0, 0, 0, 21);
        Due.colors("what went back", m, 0, 0, 150, 10, 8, 150, 0);
        m.plant(0, 1);
        Due.colors("with a mistake", m, 7, 320, 0, 0, 0, 0, 21);
        m.unweave(15);
        Due.colors("nothing woven", m, 7, 320, 0, 0, 0, 0, 336);
        Due.colors("the last color of the least cartoon", Edge.LEAST.make(), 7, 1, 1, 0, 2, 1, 0);
        MirrorLoom lots = Edge.LOTS.make();
        Due.colors("the last color of 16 lots", lots, 7, 0, 0, 57 + 999, 2, 0, 0);
        Due.colors("the first color of 16 lots", lots, 0, 48, 0, 1 + 65, 2, 0, 54);
    }

    /** Promise 15: "NONE if there are not so many." */
    private static void slits() {
        MirrorLoom m = Edge.FULL.make();
        Due.slits("the first", m, 0, 0, 0, 15, 1);
        Due.slits("the second", m, 1, 1, 0, 15, 0);
        Due.slits("the last", m, 18, 18, 0, 15, 1);
        Due.slits("one more", m, 19, -1, -1, -1, -1);
        Due.slits("far more", m, Integer.MAX_VALUE, -1, -1, -1, -1);
        Due.slits("without any", Edge.FRESH.make(), 0, -1, -1, -1, -1);
        m.unweave(12);
        Due.slits("4 rows", m, 18, 18, 0, 3, 1);
        m.unweave(1);
        Due.slits("3 rows", m, 0, -1, -1, -1, -1);
        MirrorLoom low = Hands.twoColumns(16, 11);
        Due.slits("the last rows", low, 1, 0, 12, 15, 0);
        MirrorLoom lower = Hands.twoColumns(16, 12);
        Due.slits("too few last rows", lower, 1, -1, -1, -1, -1);
    }

    /** Promise 16, of the least, the greatest, and one between. */
    private static void wholes() {
        Due.wholes("LEAST", Edge.LEAST.make(), 1, 1, 1, 2, 0, 0, 0, 0, 0, 0, 0, 1, 1, 3, 15);
        Due.wholes("FULL", Edge.FULL.make(), 20, 16, 16, 16, 0, 0, 19, 2, 32, 140, 140, 20, 20, 3, 150);
        Due.wholes("LOTS", Edge.LOTS.make(), 8, 6, 0, 16, 1, 0, 0, 0, 0, 0, 0, 0, 0, 3, 0);
        Due.wholes("HALF", Edge.HALF.make(), 6, 5, 4, 4, 2, 0, 3, 1, 3, 3, 3, 4, 4, 2, 19);
        MirrorLoom m = Edge.FULL.make();
        m.setTolerance(Hands.bits(2.0f));
        Due.same("seams that are as great as the tolerance", m.whole(10), 0);
        m.fill(0, 0, 19, 15, 7);
        Due.same("all cells are wrong", m.whole(5), 320);
    }

    /** Promise 17: "of 0.0f without any"; of one cell, of a whole cartoon, of the least and the greatest shade. */
    private static void meanShades() {
        Due.same("nothing woven", Edge.LOTS.make().meanShade(7), 0);
        Due.same("a color without cells", Edge.FULL.make().meanShade(7), 0);
        Due.sameShade("160 cells of the first color", Edge.FULL.make().meanShade(0), 7.5f);
        Due.sameShade("160 cells of the next one", Edge.FULL.make().meanShade(1), 8.5f);
        Due.same("one cell, the least shade", Edge.LEAST.make().meanShade(7), 1);
        MirrorLoom m = new MirrorLoom();
        m.begin(20, 16);
        m.addLot(0, 999, Hands.bits(100.0f));
        m.weave(16);
        Due.sameShade("320 cells of the greatest shade", m.meanShade(0), 100.0f);
        MirrorLoom zero = new MirrorLoom();
        zero.begin(2, 1);
        zero.addLot(0, 9, MINUS_ZERO);
        zero.weave(1);
        Due.same("-0.0f, from 0.0f on", zero.meanShade(0), 0);
        MirrorLoom thirds = new MirrorLoom();
        thirds.begin(3, 1);
        thirds.addLot(0, 3, 1);
        thirds.addLot(0, 1, 0);
        thirds.weave(1);
        Due.same("two thirds of the least shade", thirds.meanShade(0), 1);
    }

    /** Promise 18: "divided by the number of such pairs as a float; of 0.0f without any". */
    private static void contrasts() {
        Due.same("one column", Edge.LEAST.make().contrast(0), 0);
        MirrorLoom m = Edge.FULL.make();
        Due.sameShade("19 pairs of the first row", m.contrast(0), 1.0f);
        Due.sameShade("19 pairs of the last row", m.contrast(15), 1.0f);
        MirrorLoom two = Hands.plain(2, 1, 2, 1);
        two.weave(1);
        Due.sameShade("one pair", two.contrast(0), 1.0f);
        MirrorLoom greatest = new MirrorLoom();
        greatest.begin(20, 1);
        for (int x = 0; x < 20; x += 2) {
            greatest.fill(x, 0, x, 0, 1);
        }
        greatest.addLot(0, 99, Hands.bits(100.0f));
        greatest.addLot(1, 99, MINUS_ZERO);
        greatest.weave(1);
        Due.sameShade("the greatest contrast", greatest.contrast(0), 100.0f);
        MirrorLoom zeros = new MirrorLoom();
        zeros.begin(2, 1);
        zeros.addLot(0, 2, MINUS_ZERO);
        zeros.addLot(0, 2, 0);
        zeros.weave(1);
        Due.same("-0.0f beside 0.0f", zeros.contrast(0), 0);
    }

    /** Promise 19: "of 0.0f without seams". */
    private static void worstSeams() {
        Due.same("nothing woven", Edge.FRESH.make().worstSeam(), 0);
        Due.same("one cell", Edge.LEAST.make().worstSeam(), 0);
        Due.sameShade("140 seams", Edge.FULL.make().worstSeam(), 2.0f);
        Due.sameShade("three seams", Edge.HALF.make().worstSeam(), 2.5f);
        MirrorLoom m = new MirrorLoom();
        m.begin(2, 1);
        m.addLot(0, 2, MINUS_ZERO);
        m.addLot(0, 2, Hands.bits(100.0f));
        m.weave(1);
        Due.sameShade("the greatest difference", m.worstSeam(), 100.0f);
        MirrorLoom first = new MirrorLoom();
        first.begin(3, 1);
        first.addLot(0, 2, Hands.bits(9.0f));
        first.addLot(0, 1, Hands.bits(1.0f));
        first.addLot(0, 1, Hands.bits(2.0f));
        first.weave(1);
        Due.sameShade("the first seam is the worst", first.worstSeam(), 8.0f);
        MirrorLoom last = Hands.plain(2, 2, 4, 1, 1);
        last.weave(2);
        Due.sameShade("the last seam of the last row is the worst", last.worstSeam(), 2.0f);
        last.unweave(1);
        Due.same("it is not woven any more", last.worstSeam() + last.whole(9), 0);
        MirrorLoom least = new MirrorLoom();
        least.begin(1, 2);
        least.addLot(0, 2, 1);
        least.addLot(0, 2, 0);
        least.weave(2);
        Due.same("the least difference", least.worstSeam(), 1);
    }

    /** Promises 20 and 21: "0 if enough are left"; just enough, and one unit too few, for each row and for all. */
    private static void whatIsNeeded() {
        for (int units = 334; units <= 337; units++) {
            MirrorLoom m = Hands.plain(20, 16, units);
            Due.same(units + " units: rows", m.rowsPossible(), units < 336 ? 15 : 16);
            Due.same(units + " units: missing", m.missing(0), Math.max(336 - units, 0));
        }
        MirrorLoom m = Hands.plain(20, 1, 20);
        Due.same("no row", m.rowsPossible(), 0);
        Due.same("one unit is missing", m.missing(0), 1);
        Due.same("none of another color", m.missing(7), 0);
        MirrorLoom full = Edge.FULL.make();
        Due.same("all woven: rows", full.rowsPossible(), 0);
        Due.same("all woven: missing", full.missing(0) + full.missing(1), 0);
        full.unweave(1);
        Due.same("the last row: rows", full.rowsPossible(), 0);
        Due.same("the last row: what its runs took is missing", full.missing(1), 10);
        MirrorLoom none = Edge.FRESH.make();
        Due.same("no lot: rows", none.rowsPossible(), 0);
        Due.same("no lot: missing", none.missing(0), 54);
        none.fill(0, 5, 0, 5, 7);
        Due.same("the last color: missing", none.missing(7), 2);
        none.addLot(0, 999, 0);
        Due.same("rows up to the last one", none.rowsPossible(), 5);
        none.addLot(7, 1, 0);
        Due.same("one unit too few", none.rowsPossible() * 10 + none.missing(7), 51);
        none.addLot(7, 1, 0);
        Due.same("two lots together", none.rowsPossible() * 10 + none.missing(7), 60);
    }

    /** Without the mistakes that are planted: they neither need yarn nor spare it here. */
    private static void whatIsNeededWithoutMistakes() {
        MirrorLoom m = Hands.plain(1, 2, 4);
        m.plant(0, 7);
        Due.same("a mistake without yarn", m.rowsPossible(), 2);
        Due.same("no yarn is missing for it", m.missing(7), 0);
        MirrorLoom spare = Hands.plain(1, 2, 2);
        spare.addLot(7, 9, 0);
        spare.plant(0, 7);
        Due.same("a mistake that would spare a row", spare.rowsPossible(), 1);
        Due.same("its row's units are missing still", spare.missing(0), 2);
        Due.same("but it is woven so", spare.weave(2), 2);
    }

    /** Promise 23: "the first woven row with a wrong cell; NONE if there is none". */
    private static void firstWrong() {
        Due.same("nothing woven", Edge.FRESH.make().firstWrong(), -1);
        MirrorLoom m = Edge.FULL.make();
        Due.same("no wrong cell", m.firstWrong(), -1);
        m.fill(19, 15, 19, 15, 0);
        Due.same("the last cell", m.firstWrong(), 15);
        m.fill(0, 15, 0, 15, 7);
        Due.same("both ends of the last row", m.firstWrong(), 15);
        m.fill(0, 0, 0, 0, 7);
        Due.same("the first cell", m.firstWrong(), 0);
        m.fill(0, 0, 0, 0, 0);
        m.unweave(1);
        Due.same("the last row is not woven", m.firstWrong(), -1);
    }

    /** Promise 24: "the number of its runs", from 1 to all columns, in the first and the last row. */
    private static void shuttlesFor() {
        MirrorLoom m = Edge.FULL.make();
        Due.same("the first row", m.shuttlesFor(0), 20);
        m.fill(0, 15, 19, 15, 7);
        Due.same("the last row, as the cartoon is now", m.shuttlesFor(15), 1);
        m.fill(19, 15, 19, 15, 0);
        Due.same("a run at its end", m.shuttlesFor(15), 2);
        m.fill(0, 15, 0, 15, 0);
        Due.same("and at its start", m.shuttlesFor(15), 3);
        Due.same("one column", Edge.LEAST.make().shuttlesFor(0), 1);
        MirrorLoom mistaken = Edge.HALF.make();
        Due.same("without the mistakes", mistaken.shuttlesFor(4), 3);
    }

    /** Promises 25 and 26: "Returns the length of the text", from 1 to 150; "the length that it had", from 0 to 150. */
    private static void textLengths() {
        MirrorLoom m = new MirrorLoom();
        Due.same("cleared when empty", m.clearCommands(), 0);
        for (int length = 1; length <= 150; length++) {
            Due.same("type", m.type(length % 128), length);
        }
        Due.refused("the 151st", m, STATE, () -> m.type(0));
        Due.same("cleared when full", m.clearCommands(), 150);
        Due.same("cleared again", m.clearCommands(), 0);
        Due.same("the first byte again", m.type(127), 1);
        Due.same("length", m.whole(14), 1);
    }

    /** Promise 27: "-10 minus the fault if it has one", from -10 to -160; the text "stays as it is". */
    private static void runs() {
        Due.same("the least fault", Hands.run(new MirrorLoom(), ";"), -10);
        Due.same("the greatest fault", Hands.run(new MirrorLoom(), " ".repeat(145) + "sew 1"), -160);
        MirrorLoom m = Edge.FULL.make();
        m.setLimit(1);
        Due.same("unweave all, row by row, and once more", Hands.run(m, "undo 1;".repeat(17)), 16);
        Due.same("its text stays", m.whole(14), 119);
        Due.same("the text can run again", m.runCommands(), 0);
        Due.same("and is still there", m.clearCommands(), 119);
        Due.same("an empty text", m.runCommands(), 0);
    }

    /** Promise 28: "the number of states that are left on the stack", from 3 to 0. */
    private static void undo() {
        MirrorLoom m = Edge.FULL.make();
        Due.same("left", m.undo() * 1000 + m.undo() * 100 + m.undo() * 10 + m.undo(), 3210);
        Due.wholes("four states ago", m, 20, 16, 0, 16, 0, 0, 0, 0, 0, 0, 0, 0, 0, 3, 150);
        Due.same("the yarn is back", m.color(0, 2) + m.color(1, 2), 640);
        Due.same("the tolerance of a new object", m.setTolerance(0), Hands.bits(2.0f));
        MirrorLoom one = Edge.HALF.make();
        Due.same("one state", one.undo(), 0);
        Due.same("the mistake is not planted", one.whole(4), 1);
        Due.refused("no state", one, STATE, one::undo);
    }

    /** Promise 29, with numbers that do not wrap, of what the face answers: the hash is their last 64 bits. */
    private static BigInteger unwrapped(MirrorLoom m, int states) {
        BigInteger h = BigInteger.valueOf(43346);
        h = mixed(h, states);
        for (int what = 0; what <= 14; what++) {
            h = mixed(h, m.whole(what));
        }
        for (int cell = 0; cell < m.whole(0) * m.whole(1) * 3; cell++) {
            h = mixed(h, m.cell(cell / 3 % m.whole(0), cell / 3 / m.whole(0), cell % 3));
        }
        for (int y = 0; y < m.whole(2); y++) {
            h = mixed(h, m.row(y, 0), m.row(y, 1), m.row(y, 2), m.row(y, 3), m.row(y, 4), m.contrast(y));
        }
        for (int lot = 0; lot < m.whole(3); lot++) {
            h = mixed(h, m.lot(lot, 0), m.lot(lot, 1), m.lot(lot, 2), m.lot(lot, 3), m.lot(lot, 4), m.lot(lot, 5));
        }
        for (int c = 0; c < 8; c++) {
            h = mixed(h, m.color(c, 0), m.color(c, 1), m.color(c, 2), m.color(c, 3), m.color(c, 4), m.color(c, 5), m.meanShade(c));
        }
        for (int slit = 0; slit < m.whole(6); slit++) {
            h = mixed(h, m.slit(slit, 0), m.slit(slit, 1), m.slit(slit, 2), m.slit(slit, 3));
        }
        return mixed(h, m.worstSeam());
    }

    private static BigInteger mixed(BigInteger start, int... values) {
        BigInteger h = start;
        for (int value : values) {
            h = h.multiply(BigInteger.valueOf(31)).add(BigInteger.valueOf(value));
        }
        return h;
    }

    /** "(long arithmetic, overflow wraps)": with negative values, above and below what a long holds. */
    private static void digests() {
        int[] states = {0, 4, 1, 4, 4};
        for (Edge edge : Edge.values()) {
            BigInteger want = unwrapped(edge.make(), states[edge.ordinal()]);
            Due.same(edge + ": digest", edge.make().digest(), want.longValue());
            Due.same(edge + ": it overflows", want.bitLength() > 64 ? 1 : 0, 1);
        }
        for (int limit = 3; limit <= 5; limit++) {
            MirrorLoom m = Hands.twoColumns(9, 4);
            m.setLimit(limit);
            Due.same("digest of two sequences of 4 rows, with the limit " + limit, m.digest(), unwrapped(m, 4).longValue());
        }
        int negative = 0;
        for (int limit = 1; limit <= 16; limit++) {
            MirrorLoom m = Edge.LEAST.make();
            m.setLimit(limit);
            Due.same("digest of the limit " + limit, m.digest(), unwrapped(m, 4).longValue());
            negative += m.digest() < 0 ? 1 : 0;
        }
        Due.same("some hashes are negative, some are not", negative > 0 && negative < 16 ? 1 : 0, 1);
        MirrorLoom m = new MirrorLoom();
        for (int state = 1; state <= 6; state++) {
            m.setLimit(3);
            Due.same("digest with saved states", m.digest(), unwrapped(m, Math.min(state, 4)).longValue());
        }
    }

    /** "An object is used for at most 512 calls": the 512th is answered as any other. */
    private static void lastCall() {
        MirrorLoom m = new MirrorLoom();
        for (int call = 1; call <= 511; call++) {
            m.setLimit(1 + call % 16);
        }
        MirrorLoom twin = new MirrorLoom();
        for (int call = 505; call <= 511; call++) {
            twin.setLimit(1 + call % 16);
        }
        Due.same("the 512th call", m.digest(), twin.digest());
    }

    public static void main(String[] args) {
        newObject();
        begin();
        smallerCartoon();
        fill();
        lots();
        tolerance();
        limits();
        plant();
        weave();
        unweave();
        sew();
        cells();
        rows();
        colors();
        slits();
        wholes();
        meanShades();
        contrasts();
        worstSeams();
        whatIsNeeded();
        whatIsNeededWithoutMistakes();
        firstWrong();
        shuttlesFor();
        textLengths();
        runs();
        undo();
        digests();
        lastCall();
        Due.end("BoundsTest");
    }
}
