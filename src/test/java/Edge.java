/**
 * Looms at the edges of what the document allows. Each is made anew by the same calls, so that twins can be compared.
 */
enum Edge {
    /** A new object: no lot, nothing woven, no text, an empty undo stack. */
    FRESH {
        MirrorLoom make() {
            return new MirrorLoom();
        }
    },

    /** One cell, woven, of two lots that are used up; the stack is full. */
    LEAST {
        MirrorLoom make() {
            MirrorLoom m = new MirrorLoom();
            m.begin(1, 1);
            m.fill(0, 0, 0, 0, 7);
            m.addLot(7, 1, 0x80000000);
            m.addLot(7, 1, 1);
            m.weave(1);
            Hands.type(m, "undo 1;weave 1;");
            return m;
        }
    },

    /** Six columns, five rows, four of them woven, three slits, of which one is sewn, two mistakes, one saved state. */
    HALF {
        MirrorLoom make() {
            MirrorLoom m = new MirrorLoom();
            m.begin(6, 5);
            m.fill(1, 0, 2, 4, 1);
            m.fill(4, 1, 5, 3, 2);
            m.addLot(0, 30, Float.floatToIntBits(10.0f));
            m.addLot(1, 8, Float.floatToIntBits(20.0f));
            m.addLot(1, 40, Float.floatToIntBits(22.5f));
            m.addLot(2, 20, Float.floatToIntBits(5.0f));
            m.setTolerance(Float.floatToIntBits(2.25f));
            m.setLimit(2);
            m.weave(4);
            m.sew(0);
            m.plant(0, 1);
            for (int states = 0; states < 4; states++) {
                m.setLimit(1);
            }
            for (int states = 0; states < 4; states++) {
                m.undo();
            }
            m.plant(5, 2);
            Hands.type(m, " limit 9 ; weave 1;");
            return m;
        }
    },

    /** 16 lots and no row woven; the stack is full. */
    LOTS {
        MirrorLoom make() {
            MirrorLoom m = new MirrorLoom();
            for (int lot = 0; lot < 16; lot++) {
                m.addLot(lot % 8, lot == 15 ? 999 : 1 + 8 * lot, Float.floatToIntBits(lot == 15 ? 100.0f : lot));
            }
            m.plant(7, 7);
            return m;
        }
    },

    /**
     * 20 columns of colors 0 and 1 by turns, 16 rows, all woven of 16 lots that are used up; a full text and a full
     * stack.
     */
    FULL {
        MirrorLoom make() {
            MirrorLoom m = new MirrorLoom();
            m.begin(20, 16);
            for (int x = 1; x < 20; x += 2) {
                m.fill(x, 0, x, 15, 1);
            }
            for (int lot = 0; lot < 16; lot++) {
                m.addLot(lot % 2, 40, Float.floatToIntBits(lot + 0.5f));
            }
            m.setTolerance(Float.floatToIntBits(1.0f));
            m.weave(16);
            m.sew(0);
            m.sew(18);
            for (int commands = 0; commands < 10; commands++) {
                Hands.type(m, "undo 1;limit 2;");
            }
            return m;
        }
    };

    abstract MirrorLoom make();
}
