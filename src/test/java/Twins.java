import java.util.ArrayList;
import java.util.List;

/**
 * Tells whether a call changed a loom. The digest alone does not know the tolerance, the bytes of the text, which
 * mistakes are planted and what the saved states hold; so the loom and a twin, on which the call was not made, are
 * led through the same further calls, and have to give the same answers.
 */
final class Twins {
    /** A call whose answer does not matter. */
    interface Call {
        void on(MirrorLoom m);
    }

    private Twins() {
    }

    /** The call has to throw just this exception, and to change nothing. */
    static void refused(Edge edge, String name, Class<? extends RuntimeException> want, Call call) {
        String due = want == null ? "nothing" : want.getSimpleName();
        MirrorLoom first = edge.make();
        MirrorLoom second = edge.make();
        String got = thrown(first, call);
        if (!got.equals(due)) {
            Due.fault(edge + ": " + name + " threw " + got + ", due is " + due);
        }
        thrown(second, call);
        alike(edge, name, savedStates(first), savedStates(edge.make()));
        alike(edge, name, whatComesOfIt(second), whatComesOfIt(edge.make()));
    }

    /** The call throws nothing and changes nothing, and saves no state. */
    static void onlyAnswers(Edge edge, String name, Call call) {
        refused(edge, name, null, call);
    }

    /** The call throws nothing. */
    static void allowed(Edge edge, String name, Call call) {
        String got = thrown(edge.make(), call);
        if (!got.equals("nothing")) {
            Due.fault(edge + ": " + name + " threw " + got + ", due is nothing");
        }
    }

    private static String thrown(MirrorLoom m, Call call) {
        try {
            call.on(m);
            return "nothing";
        } catch (RuntimeException e) {
            return e.getClass().getSimpleName();
        }
    }

    private static void alike(Edge edge, String name, List<Long> got, List<Long> want) {
        if (!got.equals(want)) {
            Due.fault(edge + ": behind " + name + " the loom is another one: " + got + ", due is " + want);
        }
    }

    /** Each state of the stack, the present one first, with its tolerance. */
    private static List<Long> savedStates(MirrorLoom m) {
        List<Long> told = new ArrayList<>();
        told.add(m.digest());
        for (int states = 0; states <= 4 && thrown(m, MirrorLoom::undo).equals("nothing"); states++) {
            told.add(m.digest());
            told.add((long) m.setTolerance(0));
            m.undo();
        }
        return told;
    }

    /** What the next row, the text, the tolerance and the slits of all limits come to. */
    private static List<Long> whatComesOfIt(MirrorLoom m) {
        List<Long> told = new ArrayList<>();
        told.add((long) m.runCommands());
        told.add(m.digest());
        told.add((long) m.undo());
        told.add((long) m.setTolerance(0));
        told.add((long) m.undo());
        told.add((long) m.weave(16));
        told.add(m.digest());
        told.add((long) m.undo());
        for (int limit = 1; limit <= 16; limit++) {
            told.add((long) m.setLimit(limit));
            told.add(m.digest());
            m.undo();
        }
        return told;
    }
}
