/**
 * A tapestry that is woven from its back after a cartoon. Each method of the face asks first why its call
 * would be refused, then saves the state if the call is undoable, and only then lets the loom work.
 */
public final class MirrorLoom {
    public static final int NONE = -1;

    private static final int MAX_COLUMNS = 20;
    private static final int MAX_ROWS = 16;
    private static final int COLORS = 8;
    private static final int MAX_LOTS = 16;
    private static final int MAX_LENGTH = 999;
    private static final int MAX_SAVED = 4;
    private static final int MAX_TEXT = 150;
    private static final int MAX_NUMBERS = 5;
    private static final int MAX_DIGITS = 3;

    private static final int CELL_VALUES = 4;
    private static final int ROW_VALUES = 5;
    private static final int LOT_VALUES = 6;
    private static final int COLOR_VALUES = 6;
    private static final int SLIT_VALUES = 4;
    private static final int WHOLE_VALUES = 15;

    private static final int FIRST_COLUMNS = 8;
    private static final int FIRST_ROWS = 6;
    private static final int FIRST_LIMIT = 3;
    private static final int FIRST_TOLERANCE = 0x40000000;

    private static final int BITS_OF_HUNDRED = 0x42C80000;
    private static final int BITS_OF_MINUS_ZERO = 0x80000000;

    private static final int FINE = 0;
    private static final int NO_PLACE = 1;
    private static final int BAD_ARGUMENT = 2;
    private static final int BAD_STATE = 3;

    private static final int SPACE = 32;
    private static final int SEMICOLON = 59;

    private static final Word[] WORDS = Word.values();

    private final Loom loom = new Loom();
    private final History history = new History();
    private final CommandText text = new CommandText();
    private final CommandReader reader = new CommandReader(text);

    public MirrorLoom() {
    }

    // ---- cartoon and lots

    public int begin(int columns, int rows) throws IllegalArgumentException {
        refuse(loom.whyNotBegin(columns, rows));
        history.save(loom);
        return loom.takeCartoon(columns, rows);
    }

    public int fill(int x, int y, int u, int v, int color)
            throws IndexOutOfBoundsException, IllegalArgumentException {
        refuse(loom.whyNotFill(x, y, u, v, color));
        history.save(loom);
        return loom.paint(x, y, u, v, color);
    }

    public int addLot(int color, int length, int shade) throws IllegalArgumentException, IllegalStateException {
        refuse(loom.whyNotAddLot(color, length, shade));
        history.save(loom);
        return loom.lots.include(color, length, shade);
    }

    public int setTolerance(int tolerance) throws IllegalArgumentException {
        refuse(Shades.isShade(tolerance) ? FINE : BAD_ARGUMENT);
        history.save(loom);
        return loom.changeTolerance(tolerance);
    }

    public int setLimit(int limit) throws IllegalArgumentException {
        refuse(loom.whyNotLimit(limit));
        history.save(loom);
        return loom.changeLimit(limit);
    }

    // ---- weaving

    public int plant(int b, int color) throws IndexOutOfBoundsException, IllegalArgumentException {
        refuse(loom.whyNotPlant(b, color));
        history.save(loom);
        return loom.plantMistake(b, color);
    }

    public int weave(int rows) throws IllegalArgumentException {
        refuse(loom.whyNotWeave(rows));
        history.save(loom);
        return loom.weaveRows(rows);
    }

    public int unweave(int rows) throws IllegalArgumentException, IllegalStateException {
        refuse(loom.whyNotUnweave(rows));
        history.save(loom);
        return loom.unweaveRows(rows);
    }

    public int sew(int index) throws IndexOutOfBoundsException, IllegalStateException {
        refuse(loom.whyNotSew(index));
        history.save(loom);
        return loom.sewSlit(index);
    }

    // ---- values

    public int cell(int x, int y, int what) throws IndexOutOfBoundsException, IllegalArgumentException {
        refuse(loom.hasCell(x, y) ? FINE : NO_PLACE);
        refuse(isFrom(0, what, CELL_VALUES - 1) ? FINE : BAD_ARGUMENT);
        return loom.cellValue(x, y, what);
    }

    public int row(int y, int what) throws IndexOutOfBoundsException, IllegalArgumentException {
        refuse(loom.isWoven(y) ? FINE : NO_PLACE);
        refuse(isFrom(0, what, ROW_VALUES - 1) ? FINE : BAD_ARGUMENT);
        return loom.rowValue(y, what);
    }

    public int lot(int lot, int what) throws IndexOutOfBoundsException, IllegalArgumentException {
        refuse(loom.lots.has(lot) ? FINE : NO_PLACE);
        refuse(isFrom(0, what, LOT_VALUES - 1) ? FINE : BAD_ARGUMENT);
        return loom.lotValue(lot, what);
    }

    public int color(int color, int what) throws IllegalArgumentException {
        refuse(isColor(color) && isFrom(0, what, COLOR_VALUES - 1) ? FINE : BAD_ARGUMENT);
        return loom.colorValue(color, what);
    }

    public int slit(int index, int what) throws IllegalArgumentException {
        refuse(index >= 0 && isFrom(0, what, SLIT_VALUES - 1) ? FINE : BAD_ARGUMENT);
        int place = loom.slitPlace(index);
        return place == NONE ? NONE : loom.slitValue(place / MAX_ROWS, place % MAX_ROWS, what);
    }

    public int whole(int what) throws IllegalArgumentException {
        refuse(isFrom(0, what, WHOLE_VALUES - 1) ? FINE : BAD_ARGUMENT);
        return loom.wholeValueOf(what, text.length);
    }

    // ---- shades

    public int meanShade(int color) throws IllegalArgumentException {
        refuse(isColor(color) ? FINE : BAD_ARGUMENT);
        return Shades.bitsOf(loom.meanShadeOf(color));
    }

    public int contrast(int y) throws IndexOutOfBoundsException {
        refuse(loom.isWoven(y) ? FINE : NO_PLACE);
        return Shades.bitsOf(loom.contrastOf(y));
    }

    public int worstSeam() {
        return Shades.bitsOf(loom.widestGap());
    }

    // ---- what if, which changes nothing

    public int rowsPossible() {
        return loom.possibleRows();
    }

    public int missing(int color) throws IllegalArgumentException {
        refuse(isColor(color) ? FINE : BAD_ARGUMENT);
        return Math.max(0, loom.unitsToCome(color) - loom.lots.leftOf(color));
    }

    public int slitsWith(int limit) throws IllegalArgumentException {
        refuse(loom.whyNotLimit(limit));
        return loom.slitCount(limit);
    }

    public int firstWrong() {
        return loom.firstWrongRow();
    }

    public int shuttlesFor(int y) throws IndexOutOfBoundsException {
        refuse(loom.hasCell(0, y) ? FINE : NO_PLACE);
        return loom.cartoon.runs(y, loom.columns);
    }

    // ---- command text, undo and checksum

    public int type(int value) throws IllegalArgumentException, IllegalStateException {
        refuse(isFrom(0, value, 127) ? FINE : BAD_ARGUMENT);
        refuse(text.length < MAX_TEXT ? FINE : BAD_STATE);
        return text.append(value);
    }

    public int clearCommands() {
        return text.empty();
    }

    public int runCommands() {
        int fault = reader.findFault();
        if (fault != NONE) {
            return -10 - fault;
        }
        history.save(loom);
        int done = 0;
        reader.rewind();
        while (done < MAX_TEXT && reader.readNext() && whyNotCommand() == FINE) {
            carryOutCommand();
            done++;
        }
        return done;
    }

    public int undo() throws IllegalStateException {
        refuse(history.count > 0 ? FINE : BAD_STATE);
        return history.restore(loom);
    }

    public long digest() {
        long hash = mixed(43346, history.count);
        for (int what = 0; what < WHOLE_VALUES; what++) {
            hash = mixed(hash, loom.wholeValueOf(what, text.length));
        }
        hash = mixedCells(hash);
        hash = mixedRows(hash);
        hash = mixedLots(hash);
        hash = mixedColors(hash);
        hash = mixedSlits(hash);
        return mixed(hash, Shades.bitsOf(loom.widestGap()));
    }

    // ---- helpers of the face

    private static void refuse(int why) {
        if (why == NO_PLACE) {
            throw new IndexOutOfBoundsException("there is no such place");
        }
        if (why == BAD_ARGUMENT) {
            throw new IllegalArgumentException("an argument is out of range");
        }
        if (why == BAD_STATE) {
            throw new IllegalStateException("this cannot be done now");
        }
    }

    private static boolean isFrom(int least, int value, int greatest) {
        return value >= least && value <= greatest;
    }

    private static boolean isColor(int color) {
        return isFrom(0, color, COLORS - 1);
    }

    private int whyNotCommand() {
        Word word = reader.word;
        int first = reader.numbers.at(0);
        int second = reader.numbers.at(1);
        int third = reader.numbers.at(2);
        if (word == Word.CLOTH) {
            return loom.whyNotBegin(first, second);
        }
        if (word == Word.FILL) {
            return loom.whyNotFill(first, second, third, reader.numbers.at(3), reader.numbers.at(4));
        }
        if (word == Word.LOT) {
            return loom.whyNotAddLot(first, second, Shades.bitsOf((float) third));
        }
        if (word == Word.WEAVE) {
            return loom.whyNotWeave(first);
        }
        if (word == Word.UNDO) {
            return loom.whyNotUnweave(first);
        }
        if (word == Word.SLIP) {
            return loom.whyNotPlant(first, second);
        }
        return word == Word.SEW ? loom.whyNotSew(first) : loom.whyNotLimit(first);
    }

    private void carryOutCommand() {
        Word word = reader.word;
        int first = reader.numbers.at(0);
        int second = reader.numbers.at(1);
        int third = reader.numbers.at(2);
        if (word == Word.CLOTH) {
            loom.takeCartoon(first, second);
        } else if (word == Word.FILL) {
            loom.paint(first, second, third, reader.numbers.at(3), reader.numbers.at(4));
        } else if (word == Word.LOT) {
            loom.lots.include(first, second, Shades.bitsOf((float) third));
        } else if (word == Word.WEAVE) {
            loom.weaveRows(first);
        } else if (word == Word.UNDO) {
            loom.unweaveRows(first);
        } else if (word == Word.SLIP) {
            loom.plantMistake(first, second);
        } else if (word == Word.SEW) {
            loom.sewSlit(first);
        } else if (word == Word.LIMIT) {
            loom.changeLimit(first);
        }
    }

    private static long mixed(long hash, int value) {
        return 31 * hash + value;
    }

    private long mixedCells(long start) {
        long hash = start;
        for (int y = 0; y < loom.rows; y++) {
            for (int x = 0; x < loom.columns; x++) {
                hash = mixed(hash, loom.cellValue(x, y, 0));
                hash = mixed(hash, loom.cellValue(x, y, 1));
                hash = mixed(hash, loom.cellValue(x, y, 2));
            }
        }
        return hash;
    }

    private long mixedRows(long start) {
        long hash = start;
        for (int y = 0; y < loom.wovenRows; y++) {
            for (int what = 0; what < ROW_VALUES; what++) {
                hash = mixed(hash, loom.rowValue(y, what));
            }
            hash = mixed(hash, Shades.bitsOf(loom.contrastOf(y)));
        }
        return hash;
    }

    private long mixedLots(long start) {
        long hash = start;
        for (int lot = 0; lot < loom.lots.count; lot++) {
            for (int what = 0; what < LOT_VALUES; what++) {
                hash = mixed(hash, loom.lotValue(lot, what));
            }
        }
        return hash;
    }

    private long mixedColors(long start) {
        long hash = start;
        for (int color = 0; color < COLORS; color++) {
            for (int what = 0; what < COLOR_VALUES; what++) {
                hash = mixed(hash, loom.colorValue(color, what));
            }
            hash = mixed(hash, Shades.bitsOf(loom.meanShadeOf(color)));
        }
        return hash;
    }

    private long mixedSlits(long start) {
        long hash = start;
        for (int b = 0; b < loom.columns; b++) {
            for (int y = 0; y < loom.wovenRows; y++) {
                if (loom.slitRows(b, y) > loom.limit) {
                    for (int what = 0; what < SLIT_VALUES; what++) {
                        hash = mixed(hash, loom.slitValue(b, y, what));
                    }
                }
            }
        }
        return hash;
    }

    /** Floats and their bits, by arithmetic alone, for the language has no Float.floatToIntBits(). */
    private static final class Shades {
        private static final int MANTISSA_UNIT = 1 << 23;
        private static final int EXPONENT_OF_UNIT = 150;

        private Shades() {
        }

        static boolean isShade(int bits) {
            return bits == BITS_OF_MINUS_ZERO || isFrom(0, bits, BITS_OF_HUNDRED);
        }

        /** The shade of such bits; 0.0f stands for -0.0f too, as no sum or difference tells them apart. */
        static float fromBits(int bits) {
            if (bits <= 0) {
                return 0.0f;
            }
            int exponent = bits >>> 23;
            int mantissa = bits & MANTISSA_UNIT - 1;
            float value = (float) (exponent == 0 ? mantissa : mantissa | MANTISSA_UNIT);
            for (int step = Math.max(exponent, 1); step < EXPONENT_OF_UNIT; step++) {
                value = value * 0.5f;
            }
            return value;
        }

        /** The bits of a float that is not negative and less than 2 to the 24. */
        static int bitsOf(float value) {
            if (!(value > 0.0f)) {
                return 0;
            }
            int exponent = EXPONENT_OF_UNIT;
            float mantissa = value;
            while (exponent > 1 && mantissa < (float) MANTISSA_UNIT) {
                mantissa = mantissa * 2.0f;
                exponent--;
            }
            // A small number below the least exponent has no hidden bit; the sum is right for both kinds.
            return (exponent - 1 << 23) + (int) mantissa;
        }
    }

    /** Numbers in a row of fixed length; a place that is not there reads NONE and takes nothing. */
    private static final class Numbers {
        private final int[] values;

        Numbers(int size) {
            values = new int[Math.max(size, 0)];
        }

        int at(int index) {
            return index >= 0 && index < values.length ? values[index] : NONE;
        }

        void put(int index, int value) {
            if (index >= 0 && index < values.length) {
                values[index] = value;
            }
        }

        void putAll(int value) {
            for (int index = 0; index < values.length; index++) {
                values[index] = value;
            }
        }

        void copyFrom(Numbers other) {
            for (int index = 0; index < values.length; index++) {
                values[index] = other.at(index);
            }
        }

        int countOthersThan(int value) {
            int count = 0;
            for (int index = 0; index < values.length; index++) {
                count += values[index] != value ? 1 : 0;
            }
            return count;
        }
    }

    /** A number for each back column and row; a place that is not there reads NONE and takes nothing. */
    private static final class Grid {
        private final int[] values = new int[MAX_COLUMNS * MAX_ROWS];

        int at(int b, int y) {
            int place = y * MAX_COLUMNS + b;
            return b >= 0 && b < MAX_COLUMNS && place >= 0 && place < values.length ? values[place] : NONE;
        }

        void put(int b, int y, int value) {
            int place = y * MAX_COLUMNS + b;
            if (b >= 0 && b < MAX_COLUMNS && place >= 0 && place < values.length) {
                values[place] = value;
            }
        }

        void putAll(int value) {
            for (int place = 0; place < values.length; place++) {
                values[place] = value;
            }
        }

        void copyFrom(Grid other) {
            for (int place = 0; place < values.length && place < other.values.length; place++) {
                values[place] = other.values[place];
            }
        }

        boolean startsRun(int b, int y) {
            return at(b, y) != at(b - 1, y);
        }

        int runs(int y, int columns) {
            int count = 0;
            for (int b = 0; b < columns; b++) {
                count += startsRun(b, y) ? 1 : 0;
            }
            return count;
        }

        int runsOf(int color, int y, int columns) {
            int count = 0;
            for (int b = 0; b < columns; b++) {
                count += at(b, y) == color && at(b - 1, y) != color ? 1 : 0;
            }
            return count;
        }

        int cellsOf(int value, int y, int columns) {
            int count = 0;
            for (int b = 0; b < columns; b++) {
                count += at(b, y) == value ? 1 : 0;
            }
            return count;
        }

        /** What a row takes of a color: a unit for each cell, and one ahead of each run. */
        int unitsOf(int color, int y, int columns) {
            return cellsOf(color, y, columns) + runsOf(color, y, columns);
        }
    }

    /** The lots of yarn, with what is left of them. */
    private static final class Lots {
        private int count;
        private final Numbers colors = new Numbers(MAX_LOTS);
        private final Numbers lengths = new Numbers(MAX_LOTS);
        private final Numbers left = new Numbers(MAX_LOTS);
        private final Numbers shadeBits = new Numbers(MAX_LOTS);
        private final float[] shades = new float[MAX_LOTS];

        boolean has(int lot) {
            return lot >= 0 && lot < count;
        }

        int include(int color, int length, int shade) {
            if (count >= MAX_LOTS) {
                return NONE;
            }
            colors.put(count, color);
            lengths.put(count, length);
            left.put(count, length);
            shadeBits.put(count, shade);
            putShade(count, Shades.fromBits(shade));
            count++;
            return count - 1;
        }

        float shadeOf(int lot) {
            return lot >= 0 && lot < shades.length ? shades[lot] : 0.0f;
        }

        private void putShade(int lot, float shade) {
            if (lot >= 0 && lot < shades.length) {
                shades[lot] = shade;
            }
        }

        /** The lot in use of a color; NONE if nothing of the color is left. */
        int inUse(int color) {
            for (int lot = 0; lot < count; lot++) {
                if (colors.at(lot) == color && left.at(lot) > 0) {
                    return lot;
                }
            }
            return NONE;
        }

        int countOf(int color) {
            int found = 0;
            for (int lot = 0; lot < count; lot++) {
                found += colors.at(lot) == color ? 1 : 0;
            }
            return found;
        }

        int leftOf(int color) {
            int units = 0;
            for (int lot = 0; lot < count; lot++) {
                units += colors.at(lot) == color ? left.at(lot) : 0;
            }
            return units;
        }

        /** Takes a unit of a color, and tells the lot that it came from. */
        int take(int color) {
            int lot = inUse(color);
            left.put(lot, left.at(lot) - 1);
            return lot;
        }

        void giveBack(int lot) {
            left.put(lot, left.at(lot) + 1);
        }

        void copyFrom(Lots other) {
            count = other.count;
            colors.copyFrom(other.colors);
            lengths.copyFrom(other.lengths);
            left.copyFrom(other.left);
            shadeBits.copyFrom(other.shadeBits);
            for (int lot = 0; lot < MAX_LOTS; lot++) {
                putShade(lot, other.shadeOf(lot));
            }
        }
    }

    /** The whole state but the command text. The cartoon is kept mirrored, by back columns, as it is woven. */
    private static final class Loom {
        private int columns = FIRST_COLUMNS;
        private int rows = FIRST_ROWS;
        private int wovenRows;
        private int limit = FIRST_LIMIT;
        private int toleranceBits = FIRST_TOLERANCE;
        private final Grid cartoon = new Grid();
        private final Grid woven = new Grid();
        private final Grid lotOfCell = new Grid();
        private final Grid sewn = new Grid();
        private final Numbers mistakes = new Numbers(MAX_COLUMNS);
        private final Lots lots = new Lots();

        Loom() {
            mistakes.putAll(NONE);
        }

        void copyFrom(Loom other) {
            columns = other.columns;
            rows = other.rows;
            wovenRows = other.wovenRows;
            limit = other.limit;
            toleranceBits = other.toleranceBits;
            cartoon.copyFrom(other.cartoon);
            woven.copyFrom(other.woven);
            lotOfCell.copyFrom(other.lotOfCell);
            sewn.copyFrom(other.sewn);
            mistakes.copyFrom(other.mistakes);
            lots.copyFrom(other.lots);
        }

        // why a call is refused

        int whyNotBegin(int columns, int rows) {
            return isFrom(1, columns, MAX_COLUMNS) && isFrom(1, rows, MAX_ROWS) ? FINE : BAD_ARGUMENT;
        }

        int whyNotFill(int x, int y, int u, int v, int color) {
            if (!hasCell(x, y) || !hasCell(u, v)) {
                return NO_PLACE;
            }
            return u >= x && v >= y && isColor(color) ? FINE : BAD_ARGUMENT;
        }

        int whyNotAddLot(int color, int length, int shade) {
            if (!isColor(color) || !isFrom(1, length, MAX_LENGTH) || !Shades.isShade(shade)) {
                return BAD_ARGUMENT;
            }
            return lots.count < MAX_LOTS ? FINE : BAD_STATE;
        }

        int whyNotLimit(int limit) {
            return isFrom(1, limit, MAX_ROWS) ? FINE : BAD_ARGUMENT;
        }

        int whyNotPlant(int b, int color) {
            if (!isFrom(0, b, columns - 1)) {
                return NO_PLACE;
            }
            return isColor(color) ? FINE : BAD_ARGUMENT;
        }

        int whyNotWeave(int rows) {
            return isFrom(1, rows, MAX_ROWS) ? FINE : BAD_ARGUMENT;
        }

        int whyNotUnweave(int rows) {
            if (!isFrom(1, rows, MAX_ROWS)) {
                return BAD_ARGUMENT;
            }
            return rows <= wovenRows ? FINE : BAD_STATE;
        }

        int whyNotSew(int index) {
            int place = slitPlace(index);
            if (place == NONE) {
                return NO_PLACE;
            }
            return isSewn(place / MAX_ROWS, place % MAX_ROWS) ? BAD_STATE : FINE;
        }

        // changes

        int takeCartoon(int newColumns, int newRows) {
            int before = wovenRows;
            columns = newColumns;
            rows = newRows;
            wovenRows = 0;
            cartoon.putAll(0);
            sewn.putAll(0);
            mistakes.putAll(NONE);
            return before;
        }

        int paint(int x, int y, int u, int v, int color) {
            int changed = 0;
            for (int j = y; j <= v && j < rows; j++) {
                for (int i = x; i <= u && i < columns; i++) {
                    changed += cartoon.at(mirror(i), j) != color ? 1 : 0;
                    cartoon.put(mirror(i), j, color);
                }
            }
            return changed;
        }

        int changeTolerance(int tolerance) {
            int before = toleranceBits;
            toleranceBits = tolerance;
            return before;
        }

        int changeLimit(int newLimit) {
            int before = limit;
            limit = newLimit;
            forgetLostSlits();
            return before;
        }

        int plantMistake(int b, int color) {
            mistakes.put(b, color);
            return mistakes.countOthersThan(NONE);
        }

        int weaveRows(int most) {
            int done = 0;
            while (done < most && weaveNext()) {
                done++;
            }
            return done;
        }

        private boolean weaveNext() {
            int y = wovenRows;
            if (y >= rows) {
                return false;
            }
            layColors(y);
            if (!hasYarnFor(y)) {
                return false;
            }
            for (int b = 0; b < columns; b++) {
                int color = woven.at(b, y);
                if (woven.startsRun(b, y)) {
                    lots.take(color);
                }
                lotOfCell.put(b, y, lots.take(color));
            }
            mistakes.putAll(NONE);
            wovenRows++;
            return true;
        }

        /** Puts the colors of the next row where they will be woven; nobody sees them until wovenRows counts it. */
        private void layColors(int y) {
            for (int b = 0; b < columns; b++) {
                int mistake = mistakes.at(b);
                woven.put(b, y, mistake == NONE ? cartoon.at(b, y) : mistake);
            }
        }

        private boolean hasYarnFor(int y) {
            for (int color = 0; color < COLORS; color++) {
                if (woven.unitsOf(color, y, columns) > lots.leftOf(color)) {
                    return false;
                }
            }
            return true;
        }

        int unweaveRows(int number) {
            int units = 0;
            for (int done = 0; done < number && wovenRows > 0; done++) {
                wovenRows--;
                for (int b = 0; b < columns; b++) {
                    lots.giveBack(lotOfCell.at(b, wovenRows));
                    units++;
                }
            }
            forgetLostSlits();
            return units;
        }

        int sewSlit(int index) {
            int place = slitPlace(index);
            if (place != NONE) {
                sewn.put(place / MAX_ROWS, place % MAX_ROWS, 1);
            }
            return slitCount(limit) - sewnSlits();
        }

        private void forgetLostSlits() {
            for (int b = 0; b < MAX_COLUMNS; b++) {
                for (int y = 0; y < MAX_ROWS; y++) {
                    if (isSewn(b, y) && slitRows(b, y) <= limit) {
                        sewn.put(b, y, 0);
                    }
                }
            }
        }

        // cells

        boolean hasCell(int x, int y) {
            return isFrom(0, x, columns - 1) && isFrom(0, y, rows - 1);
        }

        boolean isWoven(int y) {
            return y >= 0 && y < wovenRows;
        }

        private int mirror(int column) {
            return columns - 1 - column;
        }

        /** The color of a woven cell; NONE if there is no such cell or it is not woven. */
        private int wovenColor(int b, int y) {
            return b < columns && y < wovenRows ? woven.at(b, y) : NONE;
        }

        private float shadeAt(int b, int y) {
            return lots.shadeOf(lotOfCell.at(b, y));
        }

        private boolean isWrong(int b, int y) {
            return woven.at(b, y) != cartoon.at(b, y);
        }

        int cellValue(int x, int y, int what) {
            int b = mirror(x);
            if (what == 0) {
                return cartoon.at(b, y);
            }
            if (what == 1) {
                return wovenColor(b, y);
            }
            if (what == 2) {
                return isWoven(y) ? lotOfCell.at(b, y) : NONE;
            }
            return b;
        }

        // rows

        int rowValue(int y, int what) {
            if (what == 0) {
                return woven.runs(y, columns);
            }
            if (what == 1) {
                return newShuttles(y);
            }
            if (what == 2) {
                return wrongCells(y);
            }
            if (what == 3) {
                return columns + woven.runs(y, columns);
            }
            return lotsInRow(y);
        }

        private int newShuttles(int y) {
            int count = 0;
            for (int b = 0; b < columns; b++) {
                count += woven.startsRun(b, y) && isNewRun(b, y) ? 1 : 0;
            }
            return count;
        }

        private boolean isNewRun(int start, int y) {
            int color = woven.at(start, y);
            for (int b = start; b < columns && woven.at(b, y) == color; b++) {
                if (woven.at(b, y - 1) == color) {
                    return false;
                }
            }
            return true;
        }

        private int wrongCells(int y) {
            int count = 0;
            for (int b = 0; b < columns; b++) {
                count += isWrong(b, y) ? 1 : 0;
            }
            return count;
        }

        private int lotsInRow(int y) {
            int count = 0;
            for (int lot = 0; lot < lots.count; lot++) {
                count += lotOfCell.cellsOf(lot, y, columns) > 0 ? 1 : 0;
            }
            return count;
        }

        int firstWrongRow() {
            for (int y = 0; y < wovenRows; y++) {
                if (wrongCells(y) > 0) {
                    return y;
                }
            }
            return NONE;
        }

        // lots and colors

        int lotValue(int lot, int what) {
            if (what == 0) {
                return lots.colors.at(lot);
            }
            if (what == 1) {
                return lots.lengths.at(lot);
            }
            if (what == 2) {
                return lots.left.at(lot);
            }
            if (what == 3) {
                return lots.shadeBits.at(lot);
            }
            if (what == 4) {
                return cellsIn(lotOfCell, lot, wovenRows);
            }
            return lots.inUse(lots.colors.at(lot)) == lot ? 1 : 0;
        }

        int colorValue(int color, int what) {
            if (what == 0) {
                return cellsIn(cartoon, color, rows);
            }
            if (what == 1) {
                return cellsIn(woven, color, wovenRows);
            }
            if (what == 2) {
                return lots.leftOf(color);
            }
            if (what == 3) {
                return lots.countOf(color);
            }
            if (what == 4) {
                return wovenRuns(color);
            }
            return unitsToCome(color);
        }

        private int cellsIn(Grid grid, int value, int height) {
            int count = 0;
            for (int y = 0; y < height; y++) {
                count += grid.cellsOf(value, y, columns);
            }
            return count;
        }

        private int wovenRuns(int color) {
            int count = 0;
            for (int y = 0; y < wovenRows; y++) {
                count += woven.runsOf(color, y, columns);
            }
            return count;
        }

        int unitsToCome(int color) {
            int units = 0;
            for (int y = wovenRows; y < rows; y++) {
                units += cartoon.unitsOf(color, y, columns);
            }
            return units;
        }

        /** Colors do not share yarn, so the color that ends first tells how many rows are possible. */
        int possibleRows() {
            int least = rows - wovenRows;
            for (int color = 0; color < COLORS; color++) {
                least = Math.min(least, rowsWithYarnOf(color));
            }
            return least;
        }

        private int rowsWithYarnOf(int color) {
            int left = lots.leftOf(color);
            for (int y = wovenRows; y < rows; y++) {
                left -= cartoon.unitsOf(color, y, columns);
                if (left < 0) {
                    return y - wovenRows;
                }
            }
            return rows - wovenRows;
        }

        // slits

        /** The woven rows of the sequence that begins between b and b + 1 with this row; 0 if none begins there. */
        int slitRows(int b, int first) {
            if (parts(b, first - 1)) {
                return 0;
            }
            int length = 0;
            for (int y = first; y < wovenRows && parts(b, y); y++) {
                length++;
            }
            return length;
        }

        private boolean parts(int b, int y) {
            return y < wovenRows && b + 1 < columns && woven.at(b, y) != woven.at(b + 1, y);
        }

        int slitCount(int someLimit) {
            int count = 0;
            for (int b = 0; b < columns; b++) {
                for (int y = 0; y < wovenRows; y++) {
                    count += slitRows(b, y) > someLimit ? 1 : 0;
                }
            }
            return count;
        }

        /** Where a slit begins, as b * MAX_ROWS + its first row; NONE if there are not so many slits. */
        int slitPlace(int index) {
            int before = 0;
            for (int b = 0; b < columns; b++) {
                for (int y = 0; y < wovenRows; y++) {
                    if (slitRows(b, y) > limit) {
                        if (before == index) {
                            return b * MAX_ROWS + y;
                        }
                        before++;
                    }
                }
            }
            return NONE;
        }

        int slitValue(int b, int first, int what) {
            if (what == 0) {
                return b;
            }
            if (what == 1) {
                return first;
            }
            if (what == 2) {
                return first + slitRows(b, first) - 1;
            }
            return isSewn(b, first) ? 1 : 0;
        }

        private boolean isSewn(int b, int first) {
            return sewn.at(b, first) == 1;
        }

        private int sewnSlits() {
            return cellsIn(sewn, 1, rows);
        }

        private int rowsOfSewnSlits() {
            int sum = 0;
            for (int b = 0; b < columns; b++) {
                for (int y = 0; y < wovenRows; y++) {
                    sum += isSewn(b, y) ? slitRows(b, y) : 0;
                }
            }
            return sum;
        }

        // the whole

        int wholeValueOf(int what, int textLength) {
            switch (what) {
                case 0: return columns;
                case 1: return rows;
                case 2: return wovenRows;
                case 3: return lots.count;
                case 4: return mistakes.countOthersThan(NONE);
                case 5: return allWrongCells();
                case 6: return slitCount(limit);
                case 7: return sewnSlits();
                case 8: return rowsOfSewnSlits();
                case 9: return gapsAbove(-1.0f);
                case 10: return gapsAbove(Shades.fromBits(toleranceBits));
                case 11: return mostShuttles();
                case 12: return allNewShuttles();
                case 13: return limit;
                default: return textLength;
            }
        }

        private int allWrongCells() {
            int count = 0;
            for (int y = 0; y < wovenRows; y++) {
                count += wrongCells(y);
            }
            return count;
        }

        private int mostShuttles() {
            int most = 0;
            for (int y = 0; y < wovenRows; y++) {
                most = Math.max(most, woven.runs(y, columns));
            }
            return most;
        }

        private int allNewShuttles() {
            int count = 0;
            for (int y = 0; y < wovenRows; y++) {
                count += newShuttles(y);
            }
            return count;
        }

        // shades

        float meanShadeOf(int color) {
            float sum = 0.0f;
            int cells = 0;
            for (int y = 0; y < wovenRows; y++) {
                for (int b = 0; b < columns; b++) {
                    if (woven.at(b, y) == color) {
                        sum += shadeAt(b, y);
                        cells++;
                    }
                }
            }
            return cells > 0 ? sum / (float) cells : 0.0f;
        }

        float contrastOf(int y) {
            float sum = 0.0f;
            int pairs = columns - 1;
            for (int b = 0; b < pairs; b++) {
                sum += difference(b, y, b + 1, y);
            }
            return pairs > 0 ? sum / (float) pairs : 0.0f;
        }

        private float difference(int b, int y, int c, int z) {
            float difference = shadeAt(b, y) - shadeAt(c, z);
            return difference < 0.0f ? -difference : difference;
        }

        private boolean isSeam(int b, int y, int c, int z) {
            return wovenColor(b, y) == wovenColor(c, z) && lotOfCell.at(b, y) != lotOfCell.at(c, z);
        }

        /** Seams whose difference of shades is greater; all of them above any number below 0. */
        private int gapsAbove(float bound) {
            int count = 0;
            for (int y = 0; y < wovenRows; y++) {
                for (int b = 0; b < columns; b++) {
                    count += gap(b, y, b + 1, y) > bound ? 1 : 0;
                    count += gap(b, y, b, y + 1) > bound ? 1 : 0;
                }
            }
            return count;
        }

        /** The difference of shades of a seam; -1.0f if there is none. */
        private float gap(int b, int y, int c, int z) {
            return isSeam(b, y, c, z) ? difference(b, y, c, z) : -1.0f;
        }

        float widestGap() {
            float widest = 0.0f;
            for (int y = 0; y < wovenRows; y++) {
                for (int b = 0; b < columns; b++) {
                    float beside = gap(b, y, b + 1, y);
                    float below = gap(b, y, b, y + 1);
                    widest = beside > widest ? beside : widest;
                    widest = below > widest ? below : widest;
                }
            }
            return widest;
        }
    }

    /** The undo stack: the latest states, in a ring that drops the oldest one. */
    private static final class History {
        private final Loom[] saved = new Loom[MAX_SAVED];
        private int count;
        private int next;

        History() {
            for (int index = 0; index < saved.length; index++) {
                saved[index] = new Loom();
            }
        }

        void save(Loom loom) {
            Loom room = roomAt(next);
            if (room != null) {
                room.copyFrom(loom);
                next = (next + 1) % MAX_SAVED;
                count = Math.min(count + 1, MAX_SAVED);
            }
        }

        int restore(Loom loom) {
            int latest = (next + MAX_SAVED - 1) % MAX_SAVED;
            Loom room = roomAt(latest);
            if (room != null && count > 0) {
                loom.copyFrom(room);
                next = latest;
                count--;
            }
            return count;
        }

        private Loom roomAt(int index) {
            return index >= 0 && index < saved.length ? saved[index] : null;
        }
    }

    /** The bytes of the command text. */
    private static final class CommandText {
        private final Numbers bytes = new Numbers(MAX_TEXT);
        private int length;

        int append(int value) {
            if (length < MAX_TEXT) {
                bytes.put(length, value);
                length++;
            }
            return length;
        }

        int empty() {
            int before = length;
            length = 0;
            return before;
        }

        /** A byte of the text; NONE behind its end. */
        int at(int index) {
            return index < length ? bytes.at(index) : NONE;
        }
    }

    /** The words of commands, with how many numbers follow them. */
    private enum Word {
        CLOTH("cloth", 2),
        FILL("fill", 5),
        LOT("lot", 3),
        WEAVE("weave", 1),
        UNDO("undo", 1),
        SLIP("slip", 2),
        SEW("sew", 1),
        LIMIT("limit", 1);

        private final String letters;
        private final int numbers;

        Word(String letters, int numbers) {
            this.letters = letters;
            this.numbers = numbers;
        }
    }

    /** Reads a command text, one command after the other, up to its end or its fault. */
    private static final class CommandReader {
        private final CommandText text;
        private final Numbers numbers = new Numbers(MAX_NUMBERS);
        private Word word = Word.CLOTH;
        private int position;
        private int fault = NONE;

        CommandReader(CommandText text) {
            this.text = text;
        }

        void rewind() {
            position = 0;
            fault = NONE;
        }

        /** The fault of the text; NONE if it has none. */
        int findFault() {
            rewind();
            int commands = 0;
            while (commands < MAX_TEXT && readNext()) {
                commands++;
            }
            return fault;
        }

        /** Reads the next command; false if there is none, be it by the end or by a fault. */
        boolean readNext() {
            skipSpaces();
            return position < text.length && readWord() && readNumbers() && readSemicolon();
        }

        private boolean failAt(int index) {
            fault = index;
            return false;
        }

        private void skipSpaces() {
            while (position < text.length && text.at(position) == SPACE) {
                position++;
            }
        }

        private boolean readWord() {
            int start = position;
            while (position < text.length && isFrom('a', text.at(position), 'z')) {
                position++;
            }
            for (int index = 0; index < WORDS.length; index++) {
                Word known = WORDS[index];
                if (known != null && isBetween(known.letters, start)) {
                    word = known;
                    return true;
                }
            }
            return failAt(start);
        }

        /** Tells whether the text has these letters, and no others, from the start to the position. */
        private boolean isBetween(String letters, int start) {
            if (letters == null || letters.length() != position - start) {
                return false;
            }
            for (int index = 0; index < letters.length(); index++) {
                if (letters.charAt(index) != text.at(start + index)) {
                    return false;
                }
            }
            return true;
        }

        private boolean readNumbers() {
            for (int index = 0; index < word.numbers; index++) {
                if (text.at(position) != SPACE) {
                    return failAt(position);
                }
                skipSpaces();
                if (!readNumber(index)) {
                    return false;
                }
            }
            return true;
        }

        private boolean readNumber(int index) {
            int value = 0;
            int digits = 0;
            while (digits < MAX_DIGITS && isFrom('0', text.at(position), '9')) {
                value = value * 10 + text.at(position) - '0';
                digits++;
                position++;
            }
            numbers.put(index, value);
            return digits > 0 || failAt(position);
        }

        private boolean readSemicolon() {
            skipSpaces();
            if (text.at(position) != SEMICOLON) {
                return failAt(position);
            }
            position++;
            return true;
        }
    }
}
