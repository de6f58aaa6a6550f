/** What tests do to a loom again and again. */
final class Hands {
    private Hands() {
    }

    static int bits(float shade) {
        return Float.floatToIntBits(shade);
    }

    static void type(MirrorLoom m, String text) {
        for (int i = 0; i < text.length(); i++) {
            m.type(text.charAt(i));
        }
    }

    static int run(MirrorLoom m, String text) {
        m.clearCommands();
        type(m, text);
        return m.runCommands();
    }

    /** Gives a row of the cartoon the colors that its back has to show, from the back column 0 on. */
    static void paint(MirrorLoom m, int y, int... colors) {
        for (int b = 0; b < colors.length; b++) {
            int x = colors.length - 1 - b;
            m.fill(x, y, x, y, colors[b]);
        }
    }

    /** A loom with a cartoon of one color, which needs one run in each row, and lots of the shades 0.0f, 1.0f, and so on. */
    static MirrorLoom plain(int columns, int rows, int... lengths) {
        MirrorLoom m = new MirrorLoom();
        m.begin(columns, rows);
        for (int lot = 0; lot < lengths.length; lot++) {
            m.addLot(0, lengths[lot], bits(lot));
        }
        return m;
    }

    /** Two columns that differ in each row but the blank ones, all woven. */
    static MirrorLoom twoColumns(int rows, int... blank) {
        MirrorLoom m = plain(2, rows, 999);
        m.addLot(1, 999, bits(1.0f));
        m.fill(0, 0, 0, rows - 1, 1);
        for (int y : blank) {
            m.fill(0, y, 0, y, 0);
        }
        m.weave(16);
        return m;
    }
}
