import java.util.ArrayDeque;
import java.util.ArrayList;
import java.util.Arrays;
import java.util.Deque;
import java.util.List;
import java.util.TreeMap;
import java.util.TreeSet;
import java.util.regex.Matcher;
import java.util.regex.Pattern;

/**
 * The document once more, written another way and without care for speed: woven rows are a list, the cartoon
 * is kept as its front, slits are looked for anew at each question, and texts are read by patterns.
 */
final class Model {
    private static final class Yarn {
        int color;
        int length;
        int left;
        float shade;
    }

    private static final class Weft {
        int[] colors;
        int[] lots;
    }

    private static final class State {
        int columns = 8;
        int rows = 6;
        int limit = 3;
        float tolerance = 2.0f;
        int[][] front = new int[6][8];
        List<Yarn> yarns = new ArrayList<>();
        List<Weft> wefts = new ArrayList<>();
        TreeMap<Integer, Integer> mistakes = new TreeMap<>();
        TreeSet<String> sewn = new TreeSet<>();

        State copy() {
            State s = new State();
            s.columns = columns;
            s.rows = rows;
            s.limit = limit;
            s.tolerance = tolerance;
            s.front = new int[rows][];
            for (int y = 0; y < rows; y++) {
                s.front[y] = front[y].clone();
            }
            for (Yarn yarn : yarns) {
                Yarn t = new Yarn();
                t.color = yarn.color;
                t.length = yarn.length;
                t.left = yarn.left;
                t.shade = yarn.shade;
                s.yarns.add(t);
            }
            s.wefts.addAll(wefts);
            s.mistakes.putAll(mistakes);
            s.sewn.addAll(sewn);
            return s;
        }
    }

    private static final int NONE = -1;
    private static final String NUMBER = " +[0-9]{1,3}";
    private static final String COMMAND = " *(?:(?:cloth|slip)(?:" + NUMBER + "){2}|fill(?:" + NUMBER + "){5}|lot(?:"
            + NUMBER + "){3}|(?:weave|undo|sew|limit)" + NUMBER + ") *;";
    private static final Pattern WHOLE = Pattern.compile("(?:" + COMMAND + ")* *");
    private static final Pattern SO_FAR = Pattern.compile("(?:" + COMMAND + ")* *(?:[a-z]*|" + COMMAND + ")");
    private static final Pattern LAST_WORD = Pattern.compile("(?:.*[^a-z])?([a-z]+)", Pattern.DOTALL);
    private static final List<String> WORDS =
            Arrays.asList("cloth", "fill", "lot", "weave", "undo", "slip", "sew", "limit");

    private State s = new State();
    private final Deque<State> stack = new ArrayDeque<>();
    private String text = "";
    private boolean saving = true;

    private void save() {
        if (saving) {
            stack.addLast(s.copy());
            if (stack.size() > 4) {
                stack.removeFirst();
            }
        }
    }

    private static void argument(boolean fine) {
        if (!fine) {
            throw new IllegalArgumentException();
        }
    }

    private static void place(boolean fine) {
        if (!fine) {
            throw new IndexOutOfBoundsException();
        }
    }

    private static void state(boolean fine) {
        if (!fine) {
            throw new IllegalStateException();
        }
    }

    private static float shade(int bits) {
        float f = Float.intBitsToFloat(bits);
        argument(f >= 0.0f && f <= 100.0f);
        return f;
    }

    private boolean isCell(int x, int y) {
        return x >= 0 && x < s.columns && y >= 0 && y < s.rows;
    }

    int begin(int columns, int rows) {
        argument(columns >= 1 && columns <= 20 && rows >= 1 && rows <= 16);
        save();
        int woven = s.wefts.size();
        s.columns = columns;
        s.rows = rows;
        s.front = new int[rows][columns];
        s.wefts.clear();
        s.mistakes.clear();
        s.sewn.clear();
        return woven;
    }

    int fill(int x, int y, int u, int v, int color) {
        place(isCell(x, y) && isCell(u, v));
        argument(u >= x && v >= y && color >= 0 && color <= 7);
        save();
        int others = 0;
        for (int j = y; j <= v; j++) {
            for (int i = x; i <= u; i++) {
                if (s.front[j][i] != color) {
                    others++;
                }
                s.front[j][i] = color;
            }
        }
        return others;
    }

    int addLot(int color, int length, int bits) {
        argument(color >= 0 && color <= 7 && length >= 1 && length <= 999);
        float f = shade(bits);
        state(s.yarns.size() < 16);
        save();
        Yarn yarn = new Yarn();
        yarn.color = color;
        yarn.length = length;
        yarn.left = length;
        yarn.shade = f;
        s.yarns.add(yarn);
        return s.yarns.size() - 1;
    }

    int setTolerance(int bits) {
        float f = shade(bits);
        save();
        int before = Float.floatToIntBits(s.tolerance);
        s.tolerance = f;
        return before;
    }

    int setLimit(int limit) {
        argument(limit >= 1 && limit <= 16);
        save();
        int before = s.limit;
        s.limit = limit;
        forget();
        return before;
    }

    int plant(int b, int color) {
        place(b >= 0 && b < s.columns);
        argument(color >= 0 && color <= 7);
        save();
        s.mistakes.put(b, color);
        return s.mistakes.size();
    }

    private int[] mirrored(int y) {
        int[] line = new int[s.columns];
        for (int x = 0; x < s.columns; x++) {
            line[s.columns - 1 - x] = s.front[y][x];
        }
        return line;
    }

    /** The units that a line takes of each color. */
    private static int[] needs(int[] line) {
        int[] need = new int[8];
        int last = NONE;
        for (int color : line) {
            need[color] += color == last ? 1 : 2;
            last = color;
        }
        return need;
    }

    private int left(int color) {
        return s.yarns.stream().filter(t -> t.color == color).mapToInt(t -> t.left).sum();
    }

    private int unit(int color) {
        for (int k = 0; k < s.yarns.size(); k++) {
            if (s.yarns.get(k).color == color && s.yarns.get(k).left > 0) {
                s.yarns.get(k).left--;
                return k;
            }
        }
        throw new AssertionError("no yarn");
    }

    int weave(int rows) {
        argument(rows >= 1 && rows <= 16);
        save();
        int done = 0;
        while (done < rows && s.wefts.size() < s.rows) {
            int[] line = mirrored(s.wefts.size());
            s.mistakes.forEach((b, color) -> line[b] = color);
            int[] need = needs(line);
            for (int color = 0; color < 8; color++) {
                if (need[color] > left(color)) {
                    return done;
                }
            }
            Weft weft = new Weft();
            weft.colors = line;
            weft.lots = new int[s.columns];
            int last = NONE;
            for (int b = 0; b < s.columns; b++) {
                if (line[b] != last) {
                    unit(line[b]);
                }
                weft.lots[b] = unit(line[b]);
                last = line[b];
            }
            s.wefts.add(weft);
            s.mistakes.clear();
            done++;
        }
        return done;
    }

    int unweave(int rows) {
        argument(rows >= 1 && rows <= 16);
        state(rows <= s.wefts.size());
        save();
        int units = 0;
        for (int k = 0; k < rows; k++) {
            for (int lot : s.wefts.remove(s.wefts.size() - 1).lots) {
                s.yarns.get(lot).left++;
                units++;
            }
        }
        forget();
        return units;
    }

    /** Each slit as b, first row, last row. */
    private List<int[]> slits(int limit) {
        List<int[]> found = new ArrayList<>();
        for (int b = 0; b + 1 < s.columns; b++) {
            int since = 0;
            for (int y = 0; y <= s.wefts.size(); y++) {
                if (y == s.wefts.size() || s.wefts.get(y).colors[b] == s.wefts.get(y).colors[b + 1]) {
                    if (y - since > limit) {
                        found.add(new int[] {b, since, y - 1});
                    }
                    since = y + 1;
                }
            }
        }
        return found;
    }

    private static String name(int[] slit) {
        return slit[0] + "/" + slit[1];
    }

    private void forget() {
        TreeSet<String> names = new TreeSet<>();
        for (int[] slit : slits(s.limit)) {
            names.add(name(slit));
        }
        s.sewn.retainAll(names);
    }

    int sew(int index) {
        List<int[]> slits = slits(s.limit);
        place(index >= 0 && index < slits.size());
        state(!s.sewn.contains(name(slits.get(index))));
        save();
        s.sewn.add(name(slits.get(index)));
        return slits.size() - s.sewn.size();
    }

    int cell(int x, int y, int what) {
        place(isCell(x, y));
        argument(what >= 0 && what <= 3);
        int b = s.columns - 1 - x;
        boolean woven = y < s.wefts.size();
        int[] values = {s.front[y][x], woven ? s.wefts.get(y).colors[b] : NONE, woven ? s.wefts.get(y).lots[b] : NONE, b};
        return values[what];
    }

    /** The runs of a line, each as its first column and the one behind its last. */
    private static List<int[]> runs(int[] line) {
        List<int[]> found = new ArrayList<>();
        for (int b = 0; b < line.length; b++) {
            if (b > 0 && line[b] == line[b - 1]) {
                found.get(found.size() - 1)[1] = b + 1;
            } else {
                found.add(new int[] {b, b + 1});
            }
        }
        return found;
    }

    int row(int y, int what) {
        place(y >= 0 && y < s.wefts.size());
        argument(what >= 0 && what <= 4);
        Weft weft = s.wefts.get(y);
        List<int[]> runs = runs(weft.colors);
        switch (what) {
            case 0: return runs.size();
            case 1:
                int fresh = 0;
                for (int[] run : runs) {
                    boolean goesOn = false;
                    for (int b = run[0]; b < run[1]; b++) {
                        goesOn |= y > 0 && s.wefts.get(y - 1).colors[b] == weft.colors[b];
                    }
                    fresh += goesOn ? 0 : 1;
                }
                return fresh;
            case 2:
                int wrong = 0;
                int[] right = mirrored(y);
                for (int b = 0; b < s.columns; b++) {
                    wrong += right[b] != weft.colors[b] ? 1 : 0;
                }
                return wrong;
            case 3: return Arrays.stream(needs(weft.colors)).sum();
            default: return (int) Arrays.stream(weft.lots).distinct().count();
        }
    }

    int lot(int lot, int what) {
        place(lot >= 0 && lot < s.yarns.size());
        argument(what >= 0 && what <= 5);
        Yarn yarn = s.yarns.get(lot);
        switch (what) {
            case 0: return yarn.color;
            case 1: return yarn.length;
            case 2: return yarn.left;
            case 3: return Float.floatToIntBits(yarn.shade);
            case 4: return (int) s.wefts.stream().flatMapToInt(w -> Arrays.stream(w.lots)).filter(l -> l == lot).count();
            default:
                boolean first = yarn.left > 0;
                for (int k = 0; k < lot; k++) {
                    first &= s.yarns.get(k).color != yarn.color || s.yarns.get(k).left == 0;
                }
                return first ? 1 : 0;
        }
    }

    int color(int color, int what) {
        argument(color >= 0 && color <= 7 && what >= 0 && what <= 5);
        switch (what) {
            case 0: return (int) Arrays.stream(s.front).flatMapToInt(Arrays::stream).filter(c -> c == color).count();
            case 1:
                return (int) s.wefts.stream().flatMapToInt(w -> Arrays.stream(w.colors)).filter(c -> c == color).count();
            case 2: return left(color);
            case 3: return (int) s.yarns.stream().filter(t -> t.color == color).count();
            case 4:
                int runs = 0;
                for (Weft weft : s.wefts) {
                    for (int[] run : runs(weft.colors)) {
                        runs += weft.colors[run[0]] == color ? 1 : 0;
                    }
                }
                return runs;
            default:
                int units = 0;
                for (int y = s.wefts.size(); y < s.rows; y++) {
                    units += needs(s.front[y])[color];
                }
                return units;
        }
    }

    int slit(int index, int what) {
        argument(index >= 0 && what >= 0 && what <= 3);
        List<int[]> slits = slits(s.limit);
        if (index >= slits.size()) {
            return NONE;
        }
        int[] slit = slits.get(index);
        return what < 3 ? slit[what] : s.sewn.contains(name(slit)) ? 1 : 0;
    }

    /** The differences of shades of all seams. */
    private List<Float> seams() {
        List<Float> found = new ArrayList<>();
        for (int y = 0; y < s.wefts.size(); y++) {
            Weft weft = s.wefts.get(y);
            for (int b = 0; b < s.columns; b++) {
                if (b > 0 && weft.colors[b - 1] == weft.colors[b] && weft.lots[b - 1] != weft.lots[b]) {
                    found.add(apart(weft.lots[b - 1], weft.lots[b]));
                }
                if (y > 0 && s.wefts.get(y - 1).colors[b] == weft.colors[b] && s.wefts.get(y - 1).lots[b] != weft.lots[b]) {
                    found.add(apart(s.wefts.get(y - 1).lots[b], weft.lots[b]));
                }
            }
        }
        return found;
    }

    private float apart(int lot, int other) {
        return Math.abs(s.yarns.get(lot).shade - s.yarns.get(other).shade);
    }

    int whole(int what) {
        argument(what >= 0 && what <= 14);
        int sum = 0;
        switch (what) {
            case 0: return s.columns;
            case 1: return s.rows;
            case 2: return s.wefts.size();
            case 3: return s.yarns.size();
            case 4: return s.mistakes.size();
            case 5:
                for (int y = 0; y < s.wefts.size(); y++) {
                    sum += row(y, 2);
                }
                return sum;
            case 6: return slits(s.limit).size();
            case 7: return s.sewn.size();
            case 8:
                for (int[] slit : slits(s.limit)) {
                    sum += s.sewn.contains(name(slit)) ? slit[2] - slit[1] + 1 : 0;
                }
                return sum;
            case 9: return seams().size();
            case 10: return (int) seams().stream().filter(d -> d > s.tolerance).count();
            case 11:
                for (Weft weft : s.wefts) {
                    sum = Math.max(sum, runs(weft.colors).size());
                }
                return sum;
            case 12:
                for (int y = 0; y < s.wefts.size(); y++) {
                    sum += row(y, 1);
                }
                return sum;
            case 13: return s.limit;
            default: return text.length();
        }
    }

    int meanShade(int color) {
        argument(color >= 0 && color <= 7);
        float sum = 0.0f;
        int cells = 0;
        for (Weft weft : s.wefts) {
            for (int b = 0; b < s.columns; b++) {
                if (weft.colors[b] == color) {
                    sum = sum + s.yarns.get(weft.lots[b]).shade;
                    cells++;
                }
            }
        }
        return Float.floatToIntBits(cells == 0 ? 0.0f : sum / cells);
    }

    int contrast(int y) {
        place(y >= 0 && y < s.wefts.size());
        float sum = 0.0f;
        for (int b = 0; b + 1 < s.columns; b++) {
            sum = sum + apart(s.wefts.get(y).lots[b], s.wefts.get(y).lots[b + 1]);
        }
        return Float.floatToIntBits(s.columns == 1 ? 0.0f : sum / (s.columns - 1));
    }

    int worstSeam() {
        float worst = 0.0f;
        for (float d : seams()) {
            worst = Math.max(worst, d);
        }
        return Float.floatToIntBits(worst);
    }

    int rowsPossible() {
        int[] spare = new int[8];
        for (int color = 0; color < 8; color++) {
            spare[color] = left(color);
        }
        for (int y = s.wefts.size(); y < s.rows; y++) {
            int[] need = needs(mirrored(y));
            for (int color = 0; color < 8; color++) {
                spare[color] -= need[color];
                if (spare[color] < 0) {
                    return y - s.wefts.size();
                }
            }
        }
        return s.rows - s.wefts.size();
    }

    int missing(int color) {
        argument(color >= 0 && color <= 7);
        return Math.max(0, color(color, 5) - color(color, 2));
    }

    int slitsWith(int limit) {
        argument(limit >= 1 && limit <= 16);
        return slits(limit).size();
    }

    int firstWrong() {
        for (int y = 0; y < s.wefts.size(); y++) {
            if (row(y, 2) > 0) {
                return y;
            }
        }
        return NONE;
    }

    int shuttlesFor(int y) {
        place(y >= 0 && y < s.rows);
        return runs(s.front[y]).size();
    }

    int type(int value) {
        argument(value >= 0 && value <= 127);
        state(text.length() < 150);
        text += (char) value;
        return text.length();
    }

    int clearCommands() {
        int length = text.length();
        text = "";
        return length;
    }

    /** Where an unknown word begins that ends the text so far; the other index if there is none. */
    private static int unknownWord(String before, int otherwise) {
        Matcher word = LAST_WORD.matcher(before);
        return word.matches() && !WORDS.contains(word.group(1)) ? word.start(1) : otherwise;
    }

    static int fault(String text) {
        for (int i = 0; i < text.length(); i++) {
            Matcher soFar = SO_FAR.matcher(text.substring(0, i + 1));
            if (!soFar.matches() && !soFar.hitEnd()) {
                return unknownWord(text.substring(0, i), i);
            }
        }
        return WHOLE.matcher(text).matches() ? NONE : unknownWord(text, text.length());
    }

    int runCommands() {
        int fault = fault(text);
        if (fault != NONE) {
            return -10 - fault;
        }
        save();
        saving = false;
        int done = 0;
        try {
            for (String command : text.split(";")) {
                if (!command.trim().isEmpty()) {
                    carryOut(command.trim().split(" +"));
                    done++;
                }
            }
        } catch (IllegalArgumentException | IllegalStateException | IndexOutOfBoundsException e) {
            // The command that would throw ends the run.
        }
        saving = true;
        return done;
    }

    private void carryOut(String[] words) {
        int[] n = new int[5];
        for (int k = 1; k < words.length; k++) {
            n[k - 1] = Integer.parseInt(words[k]);
        }
        switch (words[0]) {
            case "cloth": begin(n[0], n[1]); break;
            case "fill": fill(n[0], n[1], n[2], n[3], n[4]); break;
            case "lot": addLot(n[0], n[1], Float.floatToIntBits(n[2])); break;
            case "weave": weave(n[0]); break;
            case "undo": unweave(n[0]); break;
            case "slip": plant(n[0], n[1]); break;
            case "sew": sew(n[0]); break;
            case "limit": setLimit(n[0]); break;
            default: throw new AssertionError(words[0]);
        }
    }

    int undo() {
        state(!stack.isEmpty());
        s = stack.removeLast();
        return stack.size();
    }

    long digest() {
        List<Integer> v = new ArrayList<>();
        v.add(stack.size());
        for (int what = 0; what <= 14; what++) {
            v.add(whole(what));
        }
        for (int y = 0; y < s.rows; y++) {
            for (int x = 0; x < s.columns; x++) {
                for (int what = 0; what <= 2; what++) {
                    v.add(cell(x, y, what));
                }
            }
        }
        for (int y = 0; y < s.wefts.size(); y++) {
            for (int what = 0; what <= 4; what++) {
                v.add(row(y, what));
            }
            v.add(contrast(y));
        }
        for (int k = 0; k < s.yarns.size(); k++) {
            for (int what = 0; what <= 5; what++) {
                v.add(lot(k, what));
            }
        }
        for (int color = 0; color < 8; color++) {
            for (int what = 0; what <= 5; what++) {
                v.add(color(color, what));
            }
            v.add(meanShade(color));
        }
        for (int k = 0; k < slits(s.limit).size(); k++) {
            for (int what = 0; what <= 3; what++) {
                v.add(slit(k, what));
            }
        }
        v.add(worstSeam());
        long h = 43346;
        for (int value : v) {
            h = 31 * h + value;
        }
        return h;
    }
}
