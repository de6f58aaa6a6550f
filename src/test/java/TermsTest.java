/**
 * Each sentence of "## Terms" that names a boundary case, but for those on texts (see TextTest) and on exceptions
 * (see RefusalTest), with a test of its own that quotes it. All answers are by hand.
 */
public final class TermsTest {
    private static final Class<IllegalStateException> STATE = IllegalStateException.class;
    private static final int MINUS_ZERO = Hands.bits(-0.0f);

    private TermsTest() {
    }

    // ---- shades

    /** "All arithmetic of shades is that of floats": 100.0f and a third of its last place twice is 100.0f still. */
    private static void shadesAreFloats() {
        MirrorLoom m = new MirrorLoom();
        m.begin(3, 1);
        m.addLot(0, 2, Hands.bits(100.0f));
        m.addLot(0, 2, Hands.bits(3.0e-6f));
        m.weave(1);
        Due.sameShade("sum of floats", m.meanShade(0), 100.0f / 3.0f);
    }

    /** "in the order told", for the mean: rows from 0 on, in each from the back column 0 on. */
    private static void orderOfMean() {
        MirrorLoom m = new MirrorLoom();
        m.begin(2, 2);
        m.addLot(0, 3, Hands.bits(3.0e-6f));
        m.addLot(0, 2, Hands.bits(100.0f));
        m.addLot(0, 1, Hands.bits(0.0f));
        m.weave(2);
        float small = 3.0e-6f + 3.0e-6f;
        Due.sameShade("both small shades first", m.meanShade(0), (small + 100.0f) / 4.0f);
        Due.same("which is more than 25.0f", m.meanShade(0) > Hands.bits(25.0f) ? 1 : 0, 1);
    }

    /** "in the order told", for the contrast: from the back column 0 on. */
    private static void orderOfContrast() {
        MirrorLoom m = new MirrorLoom();
        m.begin(4, 1);
        m.addLot(0, 9, Hands.bits(100.0f));
        m.addLot(1, 9, Hands.bits(0.0f));
        m.addLot(2, 9, Hands.bits(3.0e-6f));
        Hands.paint(m, 0, 0, 1, 2, 1);
        m.weave(1);
        Due.sameShade("100.0f first", m.contrast(0), 100.0f / 3.0f);
        m.begin(4, 1);
        Hands.paint(m, 0, 1, 2, 1, 0);
        m.weave(1);
        Due.sameShade("100.0f last", m.contrast(0), (3.0e-6f + 3.0e-6f + 100.0f) / 3.0f);
    }

    // ---- the cartoon

    /** "columns (..; 8 at first) and rows (..; 6 at first) .. has a color, 0 to 7 (0 at first)". */
    private static void cartoonAtFirst() {
        MirrorLoom m = new MirrorLoom();
        Due.same("columns at first", m.whole(0), 8);
        Due.same("rows at first", m.whole(1), 6);
        for (int y = 0; y < 6; y++) {
            for (int x = 0; x < 8; x++) {
                Due.same("color at first", m.cell(x, y, 0), 0);
            }
        }
    }

    /** "the column x of the front is the column b = columns - 1 - x", of the smallest to the widest cartoon. */
    private static void backColumns() {
        for (int columns = 1; columns <= 20; columns++) {
            MirrorLoom m = new MirrorLoom();
            m.begin(columns, 1);
            for (int x = 0; x < columns; x++) {
                Due.same("back column of " + columns, m.cell(x, 0, 3), columns - 1 - x);
            }
        }
        MirrorLoom m = Hands.plain(20, 1, 99);
        m.addLot(1, 9, 0);
        m.addLot(2, 9, 0);
        m.plant(0, 1);
        m.plant(19, 2);
        m.weave(1);
        Due.same("the back column 0 is the last one of the front", m.cell(19, 0, 1), 1);
        Due.same("the back column 19 is the first one of the front", m.cell(0, 0, 1), 2);
        Due.same("and no other", m.color(0, 1), 18);
    }

    // ---- lots of yarn

    /** "There are at most 16 lots, numbered from 0." */
    private static void sixteenLots() {
        MirrorLoom m = new MirrorLoom();
        Due.same("no lot", m.whole(3), 0);
        for (int lot = 0; lot < 16; lot++) {
            Due.same("number of a lot", m.addLot(lot % 8, 1, lot), lot);
            Due.same("lots", m.whole(3), lot + 1);
        }
        Due.refused("a 17th lot", m, STATE, () -> m.addLot(0, 1, 0));
        Due.lots("the first of 16", m, 0, 0, 1, 1, 0, 0, 1);
        Due.lots("the last of 16", m, 15, 7, 1, 1, 15, 0, 0);
    }

    /** "a length (1 to 999), of which some is left (all of it at first), and a shade (0.0f to 100.0f)". */
    private static void lotsAtFirst() {
        MirrorLoom m = new MirrorLoom();
        m.addLot(0, 1, 0);
        m.addLot(7, 999, Hands.bits(100.0f));
        m.addLot(3, 1, MINUS_ZERO);
        Due.lots("the shortest lot", m, 0, 0, 1, 1, 0, 0, 1);
        Due.lots("the longest lot", m, 1, 7, 999, 999, Hands.bits(100.0f), 0, 1);
        Due.same("-0.0f keeps its bits", m.lot(2, 3), MINUS_ZERO);
    }

    /** "The lot in use of a color is its first one of which something is left." */
    private static void lotInUse() {
        MirrorLoom m = new MirrorLoom();
        m.begin(1, 16);
        m.fill(0, 0, 0, 15, 3);
        m.addLot(3, 2, 0);
        m.addLot(3, 1, 0);
        m.addLot(4, 5, 0);
        m.addLot(3, 3, 0);
        inUse("nothing taken", m, 1, 0, 1, 0);
        m.weave(1);
        inUse("the first one used up", m, 0, 1, 1, 0);
        m.weave(1);
        inUse("the first two used up", m, 0, 0, 1, 1);
        m.weave(1);
        inUse("all of the color used up", m, 0, 0, 1, 0);
        m.unweave(1);
        inUse("the last one has 1 again", m, 0, 0, 1, 1);
        m.unweave(2);
        inUse("the first one has 1 again", m, 1, 0, 1, 0);
        m.addLot(3, 9, 0);
        Due.same("a new lot is not in use", m.lot(4, 5), 0);
    }

    private static void inUse(String name, MirrorLoom m, int... want) {
        for (int lot = 0; lot < want.length; lot++) {
            Due.same(name + ": lot " + lot + " is in use", m.lot(lot, 5), want[lot]);
        }
    }

    // ---- weaving

    /** "Rows are woven one after the other, from row 0 on, each from the back column 0 to the last one." */
    private static void orderOfWeaving() {
        MirrorLoom m = Hands.plain(2, 2, 2, 1, 2, 1);
        m.weave(1);
        Due.rowLots("the first row", m, 0, 0, 1);
        Due.same("the second row is not woven", m.cell(0, 1, 1), -1);
        m.weave(1);
        Due.rowLots("the second row", m, 1, 2, 3);
        Due.rowLots("the first row behind it", m, 0, 0, 1);
    }

    /**
     * "that of the cartoon at its place of the front, unless a mistake was planted there": in the first and last
     * columns.
     */
    private static void colorOfWovenCells() {
        MirrorLoom m = Hands.plain(20, 16, 999);
        m.addLot(5, 99, 0);
        m.addLot(6, 99, 0);
        m.fill(0, 15, 0, 15, 5);
        m.weave(15);
        m.plant(18, 6);
        m.weave(1);
        Due.same("the first column of the last row", m.cell(0, 15, 1), 5);
        Due.same("a mistake beside it", m.cell(1, 15, 1), 6);
        Due.same("the last column of the last row", m.cell(19, 15, 1), 0);
        Due.same("the row ahead", m.cell(0, 14, 1), 0);
    }

    /** "A run of a row is a greatest set of neighboring cells of the row with the same color." */
    private static void runs() {
        MirrorLoom m = Hands.plain(20, 2, 99);
        m.addLot(1, 99, 0);
        for (int x = 0; x < 20; x += 2) {
            m.fill(x, 1, x, 1, 1);
        }
        m.weave(2);
        Due.rows("one run of all cells", m, 0, 1, 1, 0, 21, 1);
        Due.rows("each cell is a run", m, 1, 20, 10, 0, 40, 2);
        Due.colors("the runs of the first color", m, 0, 30, 30, 99 - 21 - 20, 1, 11, 0);
        MirrorLoom least = Hands.plain(1, 1, 9);
        least.weave(1);
        Due.rows("a row of one cell", least, 0, 1, 1, 0, 2, 1);
    }

    private static final int[][] OVERLAPS = {
        {1, 1, 0, 0, 0, 0}, {0, 1, 1, 1, 0, 0}, {1, 1, 0, 0, 0, 0}, {0, 0, 1, 1, 1, 1}, {0, 1, 0, 1, 0, 1},
        {1, 1, 1, 1, 1, 1}, {1, 0, 1, 0, 1, 1}};

    private static MirrorLoom overlaps() {
        MirrorLoom m = Hands.plain(6, 7, 99);
        m.addLot(1, 99, 0);
        for (int y = 0; y < OVERLAPS.length; y++) {
            Hands.paint(m, y, OVERLAPS[y]);
        }
        m.weave(16);
        return m;
    }

    /** "Each run needs a shuttle, which is new if the row is row 0". */
    private static void newInRowZero() {
        Due.same("all are new", overlaps().row(0, 1), 2);
        Due.same("20 are new", Edge.FULL.make().row(0, 1), 20);
        Due.same("in the next row none is", Edge.FULL.make().row(1, 1), 0);
    }

    /** "or no cell of the run has its color in the same column of the row before, too". */
    private static void newInOtherRows() {
        MirrorLoom m = overlaps();
        Due.same("the first cell is below one of its color; the first run is new", m.row(1, 1), 1);
        Due.same("the last cell alone is below one of its color", m.row(2, 1), 0);
        Due.same("colors beside, not below", m.row(3, 1), 2);
        Due.same("the row before the row before does not count", m.row(4, 1), 3);
        Due.same("one cell in the middle of the run is enough", m.row(5, 1), 0);
        Due.same("three runs below one", m.row(6, 1), 2);
        Due.same("new shuttles of all rows", m.whole(12), 10);
        Due.same("the row with the most", m.whole(11), 6);
    }

    /** The row before is the woven one, with its mistakes, whatever the cartoon becomes. */
    private static void newGoesByWovenColors() {
        MirrorLoom m = Hands.plain(1, 3, 99);
        m.addLot(1, 99, 0);
        m.plant(0, 1);
        m.weave(3);
        Due.same("below a mistake", m.row(1, 1), 1);
        m.fill(0, 0, 0, 1, 1);
        Due.same("below what has become one of its color", m.row(1, 1), 1);
        Due.same("below its color", m.row(2, 1), 0);
    }

    /**
     * "For each run, ahead of its first cell, 1 unit .. is taken; then for each of its cells 1 unit of the lot .. in
     * use then".
     */
    private static void unitsOfRuns() {
        MirrorLoom m = Hands.plain(3, 1, 1, 1, 1, 1);
        m.weave(1);
        Due.rowLots("the run took lot 0", m, 0, 1, 2, 3);
        Due.lots("lot 0 has no cell", m, 0, 0, 1, 0, 0, 0, 0);
        Due.lots("the last lot has the last cell", m, 3, 0, 1, 0, Hands.bits(3.0f), 1, 0);
        Due.rows("it took 4 units", m, 0, 1, 1, 0, 4, 3);
        MirrorLoom two = Hands.plain(3, 1, 1, 1, 1, 1);
        two.addLot(1, 2, 0);
        Hands.paint(two, 0, 0, 1, 0);
        two.weave(1);
        Due.rowLots("each run took one", two, 0, 1, 4, 3);
        Due.rows("it took 6 units", two, 0, 3, 3, 0, 6, 3);
    }

    /**
     * "can only be woven if for each color that it needs at least so many units are left in all lots of the color
     * together".
     */
    private static void enoughYarn() {
        MirrorLoom m = Hands.plain(2, 2, 2);
        Due.same("one unit too few", m.weave(2), 0);
        Due.same("which takes nothing", m.lot(0, 2), 2);
        m.addLot(0, 1, 0);
        Due.same("just enough, in two lots", m.weave(2), 1);
        Due.same("nothing is left", m.color(0, 2), 0);
        Due.same("nothing is left for the next row", m.weave(2), 0);
        MirrorLoom colors = Hands.plain(8, 1, 2);
        for (int color = 0; color < 8; color++) {
            colors.fill(color, 0, color, 0, color);
        }
        for (int color = 1; color < 7; color++) {
            colors.addLot(color, 2, 0);
        }
        Due.same("the last color has no lot", colors.weave(1), 0);
        colors.addLot(7, 1, 0);
        Due.same("the last color has one unit too few", colors.weave(1), 0);
        colors.addLot(7, 1, 0);
        Due.same("each color has just enough", colors.weave(1), 1);
    }

    /** "A row, with the mistakes that are planted": they may need yarn, or spare it. */
    private static void enoughYarnForMistakes() {
        MirrorLoom m = Hands.plain(2, 1, 2);
        m.addLot(7, 1, 0);
        m.plant(0, 7);
        Due.same("the mistake has one unit too few", m.weave(1), 0);
        m.addLot(7, 1, 0);
        Due.same("the mistake spares the cartoon's color one", m.rowsPossible() * 10 + m.weave(1), 1);
        Due.rowColors("woven with the mistake", m, 0, 7, 0);
    }

    /** "rows are woven until so many are woven, all rows are, or the next row cannot be woven". */
    private static void untilWhen() {
        MirrorLoom m = Hands.plain(1, 4, 99);
        m.fill(0, 2, 0, 2, 5);
        Due.same("until so many are", m.weave(1), 1);
        Due.same("until the next one cannot be", m.weave(16), 1);
        Due.same("it is not left out", m.weave(16), 0);
        m.addLot(5, 2, 0);
        Due.same("until all are", m.weave(16), 2);
        Due.same("when all are", m.weave(16), 0);
        Due.same("just all", Hands.plain(20, 16, 336).weave(16), 16);
        Due.same("all but one", Hands.plain(20, 16, 335).weave(16), 15);
    }

    // ---- mistakes

    /** "A mistake is a back column and a color. At most one is planted for each column". */
    private static void oneMistakeAColumn() {
        MirrorLoom m = Hands.plain(20, 2, 999);
        m.addLot(1, 99, 0);
        m.addLot(7, 99, 0);
        for (int b = 0; b < 20; b++) {
            Due.same("another column", m.plant(b, 1), b + 1);
        }
        Due.same("the first column again", m.plant(0, 7), 20);
        Due.same("the last column again", m.plant(19, 7), 20);
        m.weave(1);
        Due.rowColors("the later ones hold", m, 0, 7, 1, 1, 1, 1, 1, 1, 1, 1, 1, 1, 1, 1, 1, 1, 1, 1, 1, 1, 7);
        Due.same("all cells are wrong", m.whole(5), 20);
    }

    /** "a planted mistake holds for the next row that is woven, and is gone then". */
    private static void mistakesAreGone() {
        MirrorLoom m = Hands.plain(2, 3, 99);
        m.plant(1, 6);
        Due.same("no row can be woven", m.weave(3), 0);
        Due.same("it stays", m.whole(4), 1);
        m.addLot(6, 99, 0);
        Due.same("all rows", m.weave(3), 3);
        Due.same("it is gone", m.whole(4), 0);
        Due.rowColors("it held for the next row", m, 0, 0, 6);
        Due.rowColors("not for the one behind it", m, 1, 0, 0);
        m.plant(0, 6);
        Due.same("no row is left", m.weave(1), 0);
        Due.same("it stays when all rows are woven", m.whole(4), 1);
    }

    /** Mistakes of color 0 are mistakes, too. */
    private static void mistakesOfColorZero() {
        MirrorLoom m = Hands.plain(1, 2, 99);
        m.addLot(1, 99, 0);
        m.fill(0, 0, 0, 1, 1);
        Due.same("planted", m.plant(0, 0), 1);
        m.weave(2);
        Due.rowColors("woven", m, 0, 0);
        Due.rowColors("gone", m, 1, 1);
    }

    // ---- unweaving

    /** "the latest rows are taken away; for each of their cells, 1 unit goes back to the lot of the cell". */
    private static void unwoven() {
        MirrorLoom m = Hands.plain(2, 3, 4, 9);
        m.weave(3);
        Due.rowLots("lot 0 ends in row 1", m, 1, 1, 1);
        Due.same("left of lot 0", m.lot(0, 2), 0);
        Due.same("left of lot 1", m.lot(1, 2), 4);
        Due.same("one row", m.unweave(1), 2);
        Due.same("lot 1 has 2 more", m.lot(1, 2), 6);
        Due.same("the rows ahead of it stay", m.whole(2), 2);
        Due.same("all rows", m.unweave(2), 4);
        Due.same("lot 0 has 2, what its runs took is lost", m.lot(0, 2), 2);
        Due.same("lot 1 has 8, what its runs took is lost", m.lot(1, 2), 8);
        Due.refused("nothing is woven", m, STATE, () -> m.unweave(1));
        Due.same("units of the whole", Edge.FULL.make().unweave(16), 320);
    }

    /** "Planted mistakes stay"; those of the rows that are taken away do not come again. */
    private static void mistakesStay() {
        MirrorLoom m = Hands.plain(3, 2, 99);
        m.addLot(1, 99, 0);
        m.plant(0, 1);
        m.weave(1);
        m.plant(2, 1);
        m.unweave(1);
        Due.same("one is planted", m.whole(4), 1);
        m.weave(1);
        Due.rowColors("just that one", m, 0, 0, 0, 1);
    }

    // ---- slits

    /** "between the back columns b and b + 1": the first and the last b; none with one column. */
    private static void firstAndLastSlit() {
        MirrorLoom m = Edge.FULL.make();
        Due.same("slits", m.whole(6), 19);
        Due.slits("the first b", m, 0, 0, 0, 15, 1);
        Due.slits("the last b", m, 18, 18, 0, 15, 1);
        Due.slits("none behind it", m, 19, -1, -1, -1, -1);
        MirrorLoom one = Hands.plain(1, 16, 99);
        one.weave(16);
        Due.same("one column", one.slitsWith(1), 0);
        MirrorLoom alike = Hands.plain(20, 16, 999);
        alike.weave(16);
        Due.same("one color", alike.slitsWith(1), 0);
        Due.same("nothing woven", new MirrorLoom().slitsWith(1), 0);
    }

    /** "each greatest sequence of woven rows .. if the sequence is longer than the slit limit", for each limit. */
    private static void longerThanLimit() {
        for (int limit = 1; limit <= 15; limit++) {
            MirrorLoom m = Hands.twoColumns(16);
            m.setLimit(limit);
            m.unweave(15 - limit + 1);
            Due.same("as long as the limit " + limit, m.whole(6), 0);
            m.weave(1);
            Due.same("longer than the limit " + limit, m.whole(6), 1);
            Due.slits("longer than the limit " + limit, m, 0, 0, 0, limit, 0);
        }
        MirrorLoom m = Hands.twoColumns(16);
        m.setLimit(16);
        Due.same("nothing is longer than 16", m.whole(6), 0);
    }

    /** "(..; 3 at first)". */
    private static void limitAtFirst() {
        MirrorLoom m = Hands.twoColumns(4);
        Due.same("4 rows", m.whole(6), 1);
        m.unweave(1);
        Due.same("3 rows", m.whole(6), 0);
    }

    /** "in the order of b, then of their first rows"; the first and the last row of the cartoon. */
    private static void orderOfSlits() {
        MirrorLoom m = Hands.plain(3, 16, 999);
        m.addLot(1, 999, 0);
        m.fill(1, 0, 1, 15, 1);
        m.fill(0, 7, 2, 7, 0);
        m.fill(0, 11, 0, 11, 1);
        m.weave(16);
        Due.same("slits", m.whole(6), 4);
        Due.slits("the first row of the first b", m, 0, 0, 0, 6, 0);
        Due.slits("the last row of the first b", m, 1, 0, 8, 15, 0);
        Due.slits("the first row of the last b", m, 2, 1, 0, 6, 0);
        Due.slits("the last row of the last b", m, 3, 1, 12, 15, 0);
        m.setLimit(2);
        Due.slits("three rows between", m, 3, 1, 8, 10, 0);
        Due.slits("numbers go up by one", m, 4, 1, 12, 15, 0);
    }

    /** A sequence goes on over rows whose colors differ in another way. */
    private static void sequencesOfManyColors() {
        MirrorLoom m = new MirrorLoom();
        m.begin(2, 4);
        for (int color = 0; color < 5; color++) {
            m.addLot(color, 99, 0);
        }
        for (int y = 0; y < 4; y++) {
            Hands.paint(m, y, y, y + 1);
        }
        m.weave(4);
        Due.slits("four rows of colors of their own", m, 0, 0, 0, 3, 0);
    }

    /** "it is remembered by b and its first row, and remains sewn if it becomes longer or shorter". */
    private static void sewnSlitsRemain() {
        MirrorLoom m = Hands.twoColumns(16, 5);
        m.sew(1);
        Due.slits("the first one is not sewn", m, 0, 0, 0, 4, 0);
        m.unweave(6);
        Due.slits("shorter, just longer than the limit", m, 1, 0, 6, 9, 1);
        m.weave(6);
        Due.slits("longer, up to the last row", m, 1, 0, 6, 15, 1);
        Due.same("sewn", m.whole(7), 1);
        Due.same("its rows", m.whole(8), 10);
        m.setLimit(9);
        Due.slits("its number is another one", m, 0, 0, 6, 15, 1);
    }

    /** "A sewn slit that is no slit any more (when rows are unwoven ..) is forgotten." */
    private static void forgottenByUnweaving() {
        MirrorLoom m = Hands.twoColumns(16, 5);
        m.sew(0);
        m.sew(1);
        m.unweave(7);
        Due.same("three rows of it are left", m.whole(7), 1);
        m.weave(7);
        Due.slits("it is not sewn again", m, 1, 0, 6, 15, 0);
        Due.slits("the other one is sewn", m, 0, 0, 0, 4, 1);
        m.unweave(16);
        Due.same("nothing is woven", m.whole(7), 0);
        m.weave(16);
        Due.slits("nor is the other one now", m, 0, 0, 0, 4, 0);
    }

    /** "(when .. the limit is set)". */
    private static void forgottenByLimit() {
        MirrorLoom m = Hands.twoColumns(16, 5);
        m.sew(0);
        m.sew(1);
        m.setLimit(4);
        Due.same("5 rows are longer than 4", m.whole(7), 2);
        m.setLimit(5);
        Due.same("5 rows are not longer than 5", m.whole(7), 1);
        m.setLimit(1);
        Due.slits("it is not sewn again", m, 0, 0, 0, 4, 0);
        Due.slits("the other one is", m, 1, 0, 6, 15, 1);
        m.setLimit(16);
        Due.same("no slit", m.whole(7), 0);
        Due.same("no rows of sewn slits", m.whole(8), 0);
    }

    // ---- what can be seen

    /** "A woven cell is wrong if its color is not that of the cartoon as it is now." */
    private static void wrongCells() {
        MirrorLoom m = Hands.plain(2, 2, 99);
        m.addLot(1, 9, 0);
        m.plant(0, 1);
        m.weave(1);
        Due.same("a mistake", m.whole(5), 1);
        m.fill(1, 0, 1, 0, 1);
        Due.same("the cartoon follows it", m.whole(5), 0);
        m.fill(0, 0, 1, 1, 2);
        Due.same("the row that is not woven does not count", m.whole(5), 2);
        m.fill(0, 0, 1, 1, 0);
        Due.same("the mistake is one again", m.whole(5), 1);
        m.plant(1, 0);
        m.weave(1);
        Due.same("a mistake of the cartoon's color is not wrong", m.row(1, 2), 0);
    }

    /** "a pair of woven cells beside each other, in a row or in a column, with the same color and different lots". */
    private static void seams() {
        MirrorLoom row = Hands.plain(3, 1, 2, 1, 1);
        row.weave(1);
        Due.same("the first and the last pair of a row", row.whole(9), 2);
        MirrorLoom column = Hands.plain(1, 3, 2, 2, 2);
        column.weave(3);
        Due.same("the first and the last pair of a column", column.whole(9), 2);
        column.unweave(1);
        Due.same("a row that is not woven any more", column.whole(9), 1);
        MirrorLoom same = Hands.plain(20, 16, 999);
        same.weave(16);
        Due.same("the same lot", same.whole(9), 0);
        MirrorLoom colors = Hands.plain(2, 2, 99);
        colors.addLot(1, 99, 0);
        Hands.paint(colors, 0, 0, 1);
        Hands.paint(colors, 1, 1, 0);
        colors.weave(2);
        Due.same("other colors, and the same ones across", colors.whole(9), 0);
        MirrorLoom corner = Hands.plain(20, 2, 41, 1);
        corner.weave(2);
        Due.same("the last cell of the last row", corner.whole(9), 2);
        MirrorLoom wide = Hands.plain(3, 2, 4, 4);
        wide.weave(2);
        Due.same("three pairs of two rows; the last of a row is not beside the first of the next", wide.whole(9), 3);
        Due.same("all of a large cartoon", Edge.FULL.make().whole(9), 140);
        Due.same("nothing woven", Edge.LOTS.make().whole(9), 0);
    }

    /**
     * "It can be seen if the absolute value of the difference of the shades .. is greater than the tolerance (..;
     * 2.0f at first)."
     */
    private static void seenSeams() {
        Due.same("2.0f at first: the next float above it", seen(10.0f, 12.000001f), 1);
        Due.same("just as great", seen(10.0f, 12.0f), 0);
        Due.same("the darker lot first", seen(12.000001f, 10.0f), 1);
        Due.same("the darker lot first, just as great", seen(12.0f, 10.0f), 0);
        MirrorLoom least = pair(0.0f, Float.MIN_VALUE);
        least.setTolerance(0);
        Due.same("the least difference, tolerance 0.0f", least.whole(10), 1);
        least.setTolerance(MINUS_ZERO);
        Due.same("the least difference, tolerance -0.0f", least.whole(10), 1);
        least.setTolerance(1);
        Due.same("the least difference as tolerance", least.whole(10), 0);
        MirrorLoom equal = pair(-0.0f, 0.0f);
        equal.setTolerance(MINUS_ZERO);
        Due.same("no difference", equal.whole(10), 0);
        Due.same("a seam it is", equal.whole(9), 1);
        MirrorLoom greatest = pair(100.0f, 0.0f);
        greatest.setTolerance(Hands.bits(100.0f));
        Due.same("the greatest difference, tolerance 100.0f", greatest.whole(10), 0);
        greatest.setTolerance(Hands.bits(100.0f) - 1);
        Due.same("the greatest difference, a lower tolerance", greatest.whole(10), 1);
    }

    private static MirrorLoom pair(float shade, float other) {
        MirrorLoom m = Hands.plain(2, 1);
        m.addLot(0, 2, Hands.bits(shade));
        m.addLot(0, 1, Hands.bits(other));
        m.weave(1);
        return m;
    }

    private static int seen(float shade, float other) {
        return pair(shade, other).whole(10);
    }

    // ---- undo

    /** What can be done to a loom; the number tells which. All but the last three are undoable. */
    private static void change(MirrorLoom m, int which) {
        switch (which) {
            case 0: m.begin(7, 4); break;
            case 1: m.fill(0, 0, 0, 0, 4); break;
            case 2: m.addLot(0, 9, 0); break;
            case 3: m.setTolerance(Hands.bits(100.0f)); break;
            case 4: m.setLimit(16); break;
            case 5: m.plant(3, 0); break;
            case 6: m.weave(1); break;
            case 7: m.unweave(1); break;
            case 8: m.sew(1); break;
            case 9: m.runCommands(); break;
            case 10: m.type(' '); break;
            case 11: m.clearCommands(); break;
            default: m.cell(0, 0, 0);
        }
    }

    /** "Every method that is marked "undoable" saves the whole state but the command text"; the others save none. */
    private static void whatIsSaved() {
        for (int which = 0; which <= 12; which++) {
            MirrorLoom m = Edge.HALF.make();
            change(m, which);
            Due.same("change " + which + ": states", m.undo(), which < 10 ? 1 : 0);
        }
    }

    /** "The saved state is the one from before the call." */
    private static void stateBeforeTheCall() {
        for (int which = 0; which < 10; which++) {
            MirrorLoom m = Edge.HALF.make();
            int changed = which;
            Twins.onlyAnswers(Edge.HALF, "change " + which + " and undo", loom -> {
                change(loom, changed);
                loom.undo();
            });
            change(m, which);
            MirrorLoom twin = Edge.HALF.make();
            twin.setTolerance(Hands.bits(2.25f));
            Due.same("change " + which + " is one", m.digest() != twin.digest() ? 1 : 0, 1);
        }
    }

    /**
     * "the whole state": cells that are woven again in another way, in a cartoon of another size, come back as they
     * were.
     */
    private static void wovenCellsAreSaved() {
        MirrorLoom m = Edge.FULL.make();
        m.unweave(1);
        m.plant(0, 0);
        m.plant(19, 1);
        Due.same("too little yarn", m.weave(1), 0);
        m.undo();
        m.undo();
        m.undo();
        m.undo();
        Due.rows("the last row", m, 15, 20, 0, 0, 40, 2);
        MirrorLoom half = Edge.HALF.make();
        half.unweave(1);
        half.weave(1);
        Due.rowColors("woven again", half, 3, 1, 2, 0, 1, 1, 2);
        Due.rowLots("woven again", half, 3, 2, 3, 0, 2, 2, 3);
        half.undo();
        half.undo();
        Due.rowColors("as it was", half, 3, 2, 2, 0, 1, 1, 0);
        Due.rowLots("as it was", half, 3, 3, 3, 0, 2, 2, 0);
        half.begin(20, 16);
        half.fill(0, 0, 19, 15, 2);
        half.weave(16);
        half.undo();
        half.undo();
        half.undo();
        Due.wholes("the size as it was", half, 6, 5, 4, 4, 2, 0, 3, 1, 3, 3, 3, 4, 4, 2, 19);
        Due.same("the cartoon as it was", half.color(2, 0), 6);
        Due.rowColors("colors as they were", half, 0, 0, 0, 0, 1, 1, 0);
        Due.rowLots("lots as they were", half, 0, 0, 0, 0, 1, 1, 0);
    }

    /** "also if it changes nothing". */
    private static void savedWithoutChange() {
        for (int which = 0; which < 7; which++) {
            MirrorLoom m = new MirrorLoom();
            switch (which) {
                case 0: m.begin(8, 6); break;
                case 1: m.fill(0, 0, 7, 5, 0); break;
                case 2: m.setTolerance(Hands.bits(2.0f)); break;
                case 3: m.setLimit(3); break;
                case 4: m.weave(1); break;
                case 5: m.runCommands(); break;
                default: m.plant(0, 0); m.plant(0, 0); m.undo();
            }
            Due.same("call " + which + " that changes nothing", m.undo(), 0);
        }
    }

    /** "The stack keeps the latest 4 saved states and drops older ones." */
    private static void latestFour() {
        for (int saved = 0; saved <= 6; saved++) {
            MirrorLoom m = new MirrorLoom();
            for (int limit = 1; limit <= saved; limit++) {
                m.setLimit(limit + 5);
            }
            int kept = Math.min(saved, 4);
            for (int left = kept - 1; left >= 0; left--) {
                Due.same(saved + " saved: states left", m.undo(), left);
                int before = saved - kept + left;
                Due.same(saved + " saved: limit", m.whole(13), before == 0 ? 3 : before + 5);
            }
            Due.refused(saved + " saved: empty", m, STATE, m::undo);
        }
    }

    /** The stack is full, empty, and full again, in any place of what may be a ring. */
    private static void fullAndEmptyAgain() {
        MirrorLoom m = new MirrorLoom();
        for (int round = 0; round < 9; round++) {
            for (int limit = 5; limit <= 9; limit++) {
                m.setLimit(limit);
            }
            m.undo();
            m.undo();
            Due.same("round " + round, m.whole(13), 7);
            m.setLimit(15);
            m.undo();
            Due.same("round " + round + ", down to 0", m.undo() * 10 + m.undo(), 10);
            Due.same("round " + round + ", the oldest one", m.whole(13), 5);
            Due.refused("round " + round + ", empty", m, STATE, m::undo);
        }
    }

    /** "the whole state but the command text": the text is what it is now, longer or shorter. */
    private static void textIsNotSaved() {
        MirrorLoom m = new MirrorLoom();
        Hands.type(m, "limit 7;");
        m.setLimit(5);
        Hands.type(m, "limit 8;");
        m.undo();
        Due.same("length behind undo", m.whole(14), 16);
        Due.same("the text runs", m.runCommands() * 100 + m.whole(13), 208);
        m.clearCommands();
        m.undo();
        Due.same("undo does not bring it back", m.whole(14), 0);
    }

    public static void main(String[] args) {
        shadesAreFloats();
        orderOfMean();
        orderOfContrast();
        cartoonAtFirst();
        backColumns();
        sixteenLots();
        lotsAtFirst();
        lotInUse();
        orderOfWeaving();
        colorOfWovenCells();
        runs();
        newInRowZero();
        newInOtherRows();
        newGoesByWovenColors();
        unitsOfRuns();
        enoughYarn();
        enoughYarnForMistakes();
        untilWhen();
        oneMistakeAColumn();
        mistakesAreGone();
        mistakesOfColorZero();
        unwoven();
        mistakesStay();
        firstAndLastSlit();
        longerThanLimit();
        limitAtFirst();
        orderOfSlits();
        sequencesOfManyColors();
        sewnSlitsRemain();
        forgottenByUnweaving();
        forgottenByLimit();
        wrongCells();
        seams();
        seenSeams();
        whatIsSaved();
        stateBeforeTheCall();
        wovenCellsAreSaved();
        savedWithoutChange();
        latestFour();
        fullAndEmptyAgain();
        textIsNotSaved();
        Due.end("TermsTest");
    }
}
