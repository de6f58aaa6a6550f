import java.util.function.IntUnaryOperator;

/**
 * Each sentence of the terms on texts of commands that names a boundary case, with a test of its own that quotes it.
 * All answers are by hand.
 */
public final class TextTest {
    private static final Class<IllegalStateException> STATE = IllegalStateException.class;
    private static final String[] WORDS = {"cloth", "fill", "lot", "weave", "undo", "slip", "sew", "limit"};
    private static final int[] NUMBERS = {2, 5, 3, 1, 1, 2, 1, 1};
    private static final int NO_FAULT = -1;

    private TextTest() {
    }

    /** The fault of a text, or NO_FAULT. */
    private static int fault(String text) {
        int answer = Hands.run(new MirrorLoom(), text);
        return answer <= -10 ? -10 - answer : NO_FAULT;
    }

    private static void faultIs(String text, int want) {
        Due.same("fault of \"" + text + "\"", fault(text), want);
    }

    private static String command(int word, String number) {
        return WORDS[word] + number.repeat(NUMBERS[word]) + ";";
    }

    /** "The command text has at most 150 bytes." */
    private static void fullText() {
        MirrorLoom m = new MirrorLoom();
        Hands.type(m, "limit 4;".repeat(18) + "sew 0;");
        Due.same("150 bytes", m.whole(14), 150);
        Due.refused("one more", m, STATE, () -> m.type(';'));
        Due.same("18 commands of a full text, and one that would throw", m.runCommands(), 18);
        Due.same("the full text stays", m.clearCommands(), 150);
        Due.same("150 bytes that end too soon", Hands.run(m, "limit 4;".repeat(18) + "limit "), -160);
        Due.same("a fault in the last byte", Hands.run(m, "limit 4;".repeat(18) + "sew 0:"), -159);
        Due.same("an unknown word at the end of a full text", Hands.run(m, "limit 4;".repeat(18) + " limt "), -155);
        Due.same("one word of 150 letters", Hands.run(m, "w".repeat(150)), -10);
        Due.same("a full text of the shortest commands", Hands.run(Edge.FULL.make(), "undo 1;".repeat(16)), 16);
    }

    /** "perhaps none: a text that is empty, or has spaces alone, has no fault". */
    private static void noCommands() {
        for (int spaces = 0; spaces <= 150; spaces++) {
            MirrorLoom m = new MirrorLoom();
            Due.same(spaces + " spaces", Hands.run(m, " ".repeat(spaces)), 0);
            Due.same(spaces + " spaces save a state", m.undo(), 0);
        }
    }

    /** The eight words, each "followed by its numbers .. and a semicolon". */
    private static void wordsWithNumbers() {
        for (int word = 0; word < WORDS.length; word++) {
            faultIs(command(word, " 1"), NO_FAULT);
            String less = WORDS[word] + " 1".repeat(NUMBERS[word] - 1) + ";";
            faultIs(less, less.length() - 1);
            String more = WORDS[word] + " 1".repeat(NUMBERS[word] + 1) + ";";
            faultIs(more, more.length() - 2);
            faultIs(WORDS[word] + ";", WORDS[word].length());
        }
    }

    /**
     * "or the length of the text if it ends too soon", be it ever so short; but a word that is none is complete then.
     */
    private static void endsTooSoon() {
        for (int word = 0; word < WORDS.length; word++) {
            String text = command(word, "  012") + command(word, " 7").replace(";", " ;");
            int second = text.indexOf(';') + 1;
            for (int length = 1; length <= text.length(); length++) {
                int start = length <= second ? 0 : second;
                boolean inWord = length - start < WORDS[word].length();
                boolean whole = length == second || length == text.length();
                faultIs(text.substring(0, length), whole ? NO_FAULT : inWord ? start : length);
            }
        }
    }

    /** "the index of the first byte that cannot stand at its place": at each place of each command. */
    private static void wrongBytes() {
        for (int word = 0; word < WORDS.length; word++) {
            String text = command(word, " 12");
            for (int index = 0; index < text.length(); index++) {
                for (char c : new char[] {0, 9, 10, '/', ':', '@', 'A', 'Z', '[', '`', '{', 127, '-', '+', '.', ','}) {
                    String wrong = text.substring(0, index) + c + text.substring(index + 1);
                    faultIs(wrong, index < WORDS[word].length() ? 0 : index);
                    faultIs("  " + wrong + "#", index < WORDS[word].length() ? 2 : index + 2);
                }
            }
        }
    }

    /** "A word that is not one of these is at fault with its first byte". */
    private static void unknownWords() {
        for (String word : WORDS) {
            for (int index = 0; index < word.length(); index++) {
                char other = word.charAt(index) == 'z' ? 'a' : (char) (word.charAt(index) + 1);
                unknown(word.substring(0, index) + other + word.substring(index + 1));
                unknown(word.substring(0, index) + word.substring(index + 1));
            }
            unknown(word + "s");
            unknown("a" + word);
            unknown(word + word);
            unknown(word.substring(0, 1).toUpperCase() + word.substring(1));
        }
        for (String word : new String[] {"begin", "addlot", "unweave", "plant", "a", "z"}) {
            unknown(word);
        }
    }

    /**
     * Unknown at the start and behind a command, whatever follows it: "a byte that is no letter, or the end of the
     * text".
     */
    private static void unknown(String word) {
        for (String end : new String[] {"", " ", " 1;", ";", "1", "#", "X", " 1 2 3 4 5 6;"}) {
            faultIs(word + end, 0);
            faultIs("sew 1; " + word + end, 7);
        }
    }

    /** "the first byte that cannot stand at its place", where there are two of them. */
    private static void firstOfTwoFaults() {
        String[] texts = {"sew ;", "sew 1234;", "sew 1 2;", "sew;", "slip 1;", "x;", ";", "sew 1;;", "fill 1 2 3 4 ;", "sew a;"};
        int[] faults = {4, 7, 6, 3, 6, 0, 0, 6, 13, 4};
        for (int k = 0; k < texts.length; k++) {
            for (String end : new String[] {"", "x", " x", ";", "sew ;", "sew 1;", " sew 1; #", "1", " 9999"}) {
                faultIs(texts[k] + end, faults[k]);
            }
        }
    }

    /** The bytes of a text that was cleared do not stand behind a shorter one. */
    private static void behindALongerText() {
        MirrorLoom m = new MirrorLoom();
        for (String longer : new String[] {"sew 1;", "      ", "limit 1;limit 2;", "sew 123 ;", "sewsewsew"}) {
            for (int length = 1; length <= 5; length++) {
                Hands.run(m, longer);
                int want = length < 3 ? -10 : -10 - length;
                Due.same("\"" + longer + "\", cleared, and " + length + " bytes", Hands.run(m, "sew 1;".substring(0, length)), want);
            }
            m = new MirrorLoom();
        }
        Hands.run(m, "limit 1;limit 2;");
        Due.same("one command behind two", Hands.run(m, "limit 9;"), 1);
        Due.same("only it is done", m.whole(13), 9);
    }

    /** What can stand behind some bytes: tried with each byte that can be typed. */
    private static void everyByteBehind(String text, IntUnaryOperator want) {
        for (int value = 0; value < 128; value++) {
            faultIs(text + (char) value, want.applyAsInt(value));
        }
    }

    private static boolean isLetter(int value) {
        return value >= 'a' && value <= 'z';
    }

    private static boolean isDigit(int value) {
        return value >= '0' && value <= '9';
    }

    /** "Spaces may also stand in front of a command .. and at the end": behind nothing, and behind a semicolon. */
    private static void inFrontOfACommand() {
        everyByteBehind("", value -> value == ' ' ? NO_FAULT : 0);
        everyByteBehind("  ", value -> value == ' ' ? NO_FAULT : 2);
        everyByteBehind("sew 1;", value -> value == ' ' ? NO_FAULT : 6);
        everyByteBehind("sew 1; ", value -> value == ' ' ? NO_FAULT : 7);
    }

    /** "with at least one space (byte 32) in front". */
    private static void inFrontOfANumber() {
        everyByteBehind("sew", value -> value == ' ' ? 4 : isLetter(value) ? 0 : 3);
        everyByteBehind("sew ", value -> value == ' ' || isDigit(value) ? 5 : 4);
        everyByteBehind("sew   ", value -> value == ' ' || isDigit(value) ? 7 : 6);
        everyByteBehind("slip 1", value -> value == ' ' || isDigit(value) ? 7 : 6);
        everyByteBehind("slip 1 ", value -> value == ' ' || isDigit(value) ? 8 : 7);
        everyByteBehind("fill 1 2 3 4", value -> value == ' ' || isDigit(value) ? 13 : 12);
        everyByteBehind("fill 1 2 3 4 ", value -> value == ' ' || isDigit(value) ? 14 : 13);
    }

    /** "each of one to three digits (zeros in front are allowed; a fourth digit cannot stand)". */
    private static void digits() {
        everyByteBehind("sew 1", value -> value == ';' ? NO_FAULT : value == ' ' || isDigit(value) ? 6 : 5);
        everyByteBehind("sew 12", value -> value == ';' ? NO_FAULT : value == ' ' || isDigit(value) ? 7 : 6);
        everyByteBehind("sew 123", value -> value == ';' ? NO_FAULT : value == ' ' ? 8 : 7);
        everyByteBehind("slip 123", value -> value == ' ' ? 9 : 8);
        faultIs("slip 1234 1;", 8);
        faultIs("slip 1 0001;", 10);
        faultIs("slip 000 000;", NO_FAULT);
        faultIs("slip 999 999;", NO_FAULT);
        MirrorLoom m = new MirrorLoom();
        Due.same("zeros in front", Hands.run(m, "limit 004;limit 05;cloth 013 016;"), 3);
        Due.same("13 columns", m.whole(0), 13);
        Due.same("16 rows", m.whole(1), 16);
        Due.same("limit 5", m.whole(13), 5);
    }

    /** "Spaces may also stand .. in front of a semicolon". */
    private static void inFrontOfASemicolon() {
        everyByteBehind("sew 1 ", value -> value == ';' ? NO_FAULT : value == ' ' ? 7 : 6);
        everyByteBehind("sew 123   ", value -> value == ';' ? NO_FAULT : value == ' ' ? 11 : 10);
        everyByteBehind("slip 1 2 ", value -> value == ';' ? NO_FAULT : value == ' ' ? 10 : 9);
    }

    /**
     * "(That a number is out of its range is no fault.)": each such command would throw, each at an end of its range
     * is done.
     */
    private static void ranges() {
        String[] refused = {
            "cloth 0 1;", "cloth 21 1;", "cloth 1 0;", "cloth 1 17;", "cloth 999 999;", "fill 20 0 19 0 0;", "fill 0 16 0 15 0;",
            "fill 0 0 20 0 0;", "fill 0 0 0 16 0;", "fill 1 0 0 0 0;", "fill 0 1 0 0 0;", "fill 0 0 0 0 8;", "lot 0 1 1;",
            "weave 0;", "weave 17;", "undo 0;", "undo 17;", "slip 20 0;", "slip 0 8;", "sew 0;", "sew 18;", "sew 19;",
            "limit 0;", "limit 17;"};
        for (String command : refused) {
            MirrorLoom m = Edge.FULL.make();
            Due.same("\"" + command + "\" would throw", Hands.run(m, command), 0);
            m.clearCommands();
            MirrorLoom twin = Edge.FULL.make();
            twin.clearCommands();
            Due.same("\"" + command + "\" changes nothing", m.digest(), twin.digest());
        }
        String[] done = {
            "cloth 1 1;", "cloth 20 16;", "fill 19 15 19 15 7;", "fill 0 0 19 15 0;", "weave 1;", "weave 16;", "undo 1;",
            "undo 16;", "slip 0 0;", "slip 19 7;", "sew 1;", "sew 17;", "limit 1;", "limit 16;"};
        for (String command : done) {
            Due.same("\"" + command + "\" is done", Hands.run(Edge.FULL.make(), command), 1);
        }
        for (String command : new String[] {"lot 8 1 1;", "lot 0 0 1;", "lot 0 1 101;", "lot 0 1 999;", "undo 1;"}) {
            Due.same("\"" + command + "\" would throw", Hands.run(new MirrorLoom(), command), 0);
        }
        for (String command : new String[] {"lot 0 1 0;", "lot 7 999 100;"}) {
            Due.same("\"" + command + "\" is done", Hands.run(new MirrorLoom(), command), 1);
        }
    }

    /** "lot c l s (addLot(c, l, the bits of s as a float))", for each s that can be. */
    private static void shadesOfLots() {
        for (int shade = 0; shade <= 100; shade++) {
            MirrorLoom m = new MirrorLoom();
            Due.same("a lot of the shade " + shade, Hands.run(m, "lot 5 17 " + shade + ";"), 1);
            Due.lots("a lot of the shade " + shade, m, 0, 5, 17, 17, Hands.bits((float) shade), 0, 1);
        }
    }

    /** Each command does what its method does. */
    private static void commandsAndMethods() {
        for (int word = 0; word < WORDS.length; word++) {
            MirrorLoom ours = Edge.HALF.make();
            MirrorLoom theirs = Edge.HALF.make();
            String[] commands = {
                "cloth 3 4;", "fill 0 1 2 3 4;", "lot 6 77 8;", "weave 2;", "undo 3;", "slip 4 5;", "sew 2;", "limit 5;"};
            Due.same(commands[word], Hands.run(ours, commands[word]), 1);
            theirs.clearCommands();
            Hands.type(theirs, commands[word]);
            switch (word) {
                case 0: theirs.begin(3, 4); break;
                case 1: theirs.fill(0, 1, 2, 3, 4); break;
                case 2: theirs.addLot(6, 77, Hands.bits(8.0f)); break;
                case 3: theirs.weave(2); break;
                case 4: theirs.unweave(3); break;
                case 5: theirs.plant(4, 5); break;
                case 6: theirs.sew(2); break;
                default: theirs.setLimit(5);
            }
            Due.same(commands[word] + " as the method", ours.digest(), theirs.digest());
            Due.same(commands[word] + " as the method, and woven", ours.weave(1), theirs.weave(1));
            Due.same(commands[word] + " as the method, digest", ours.digest(), theirs.digest());
        }
    }

    /** "if it has a fault, nothing is done", also if it is the last byte, behind commands that could be carried out. */
    private static void nothingIsDone() {
        for (Edge edge : Edge.values()) {
            Twins.onlyAnswers(edge, "a run with a fault", m -> {
                int length = m.clearCommands();
                Hands.type(m, "limit 9;cloth 2 2;limit 8;x");
                m.runCommands();
                m.clearCommands();
                Hands.type(m, textOf(edge).substring(0, length));
            });
        }
    }

    private static String textOf(Edge edge) {
        switch (edge) {
            case LEAST: return "undo 1;weave 1;";
            case HALF: return " limit 9 ; weave 1;";
            case FULL: return "undo 1;limit 2;".repeat(10);
            default: return "";
        }
    }

    /**
     * "until one of them would throw ..; those before it stay done, and they alone count": the first to the last of
     * six.
     */
    private static void untilOneWouldThrow() {
        for (int bad = 0; bad <= 6; bad++) {
            StringBuilder text = new StringBuilder();
            for (int k = 0; k < 6; k++) {
                text.append(k == bad ? "limit 0;" : "limit " + (4 + k) + ";");
            }
            MirrorLoom m = new MirrorLoom();
            Due.same("number " + bad + " would throw", Hands.run(m, text.toString()), Math.min(bad, 6));
            Due.same("number " + bad + ": those before it stay done", m.whole(13), bad == 0 ? 3 : 3 + bad);
        }
    }

    /** "A run saves one state, the one from before it; its commands save none." */
    private static void oneState() {
        MirrorLoom m = new MirrorLoom();
        Due.same("18 commands", Hands.run(m, "limit 4;limit 5;limit 6;".repeat(6)), 18);
        Due.same("one state", m.undo(), 0);
        Due.same("from before it", m.whole(13), 3);
        for (int limit = 7; limit <= 10; limit++) {
            m.setLimit(limit);
        }
        Due.same("a run on a full stack", m.runCommands(), 18);
        Due.same("drops one", m.undo(), 3);
        Due.same("the latest one", m.whole(13), 10);
        m.undo();
        m.undo();
        m.undo();
        Due.same("the oldest one", m.whole(13), 7);
        Due.refused("no more", m, STATE, m::undo);
    }

    public static void main(String[] args) {
        fullText();
        noCommands();
        wordsWithNumbers();
        endsTooSoon();
        wrongBytes();
        unknownWords();
        firstOfTwoFaults();
        behindALongerText();
        inFrontOfACommand();
        inFrontOfANumber();
        digits();
        inFrontOfASemicolon();
        ranges();
        shadesOfLots();
        commandsAndMethods();
        nothingIsDone();
        untilOneWouldThrow();
        oneState();
        Due.end("TextTest");
    }
}
