import java.lang.reflect.Constructor;
import java.lang.reflect.Field;
import java.lang.reflect.Method;
import java.lang.reflect.Modifier;
import java.util.Set;
import java.util.TreeSet;

/** The class has the face of the document and no more; and no call throws by itself, whatever its arguments. */
public final class FaceTest {
    private static final String[] FACE = {
        "int begin(int,int)", "int fill(int,int,int,int,int)", "int addLot(int,int,int)", "int setTolerance(int)",
        "int setLimit(int)", "int plant(int,int)", "int weave(int)", "int unweave(int)", "int sew(int)", "int cell(int,int,int)",
        "int row(int,int)", "int lot(int,int)", "int color(int,int)", "int slit(int,int)", "int whole(int)", "int meanShade(int)",
        "int contrast(int)", "int worstSeam()", "int rowsPossible()", "int missing(int)", "int slitsWith(int)", "int firstWrong()",
        "int shuttlesFor(int)", "int type(int)", "int clearCommands()", "int runCommands()", "int undo()", "long digest()"};
    private static final int[] VALUES = {
        0, 1, 2, 7, 8, 15, 16, 17, 19, 20, 21, 127, 128, 150, 320, 999, 1000, -1, -2, -16, 107374182, 107374183, 214748365,
        134217728, 268435456, Integer.MAX_VALUE, Integer.MIN_VALUE, Integer.MAX_VALUE - 1, Integer.MIN_VALUE + 1,
        0x42C80000, 0x7F800000, 0x7FC00000};

    private static void face() {
        Set<String> want = new TreeSet<>(Set.of(FACE));
        Set<String> names = new TreeSet<>();
        Set<String> got = new TreeSet<>();
        for (String line : FACE) {
            names.add(line.substring(line.indexOf(' ') + 1, line.indexOf('(')));
        }
        for (Method m : MirrorLoom.class.getDeclaredMethods()) {
            if (Modifier.isPublic(m.getModifiers())) {
                String line = m.toString().replaceAll(" throws .*", "").replace("MirrorLoom.", "");
                got.add(line.replace("public ", ""));
            } else if (!Modifier.isPrivate(m.getModifiers()) || names.contains(m.getName())) {
                Due.fault("the method " + m + " is not allowed");
            }
        }
        if (!got.equals(want)) {
            Due.fault("the face is " + got);
        }
        for (Class<?> c : MirrorLoom.class.getDeclaredClasses()) {
            for (Method m : c.getDeclaredMethods()) {
                if (names.contains(m.getName())) {
                    Due.fault("the method " + m + " bears the name of a public one");
                }
            }
        }
    }

    private static void members() {
        for (Field f : MirrorLoom.class.getDeclaredFields()) {
            boolean isNone = f.getName().equals("NONE") && f.toString().equals("public static final int MirrorLoom.NONE");
            if (!isNone && !Modifier.isPrivate(f.getModifiers())) {
                Due.fault("the field " + f + " is not allowed");
            }
        }
        Constructor<?>[] constructors = MirrorLoom.class.getDeclaredConstructors();
        if (constructors.length != 1 || !constructors[0].toString().equals("public MirrorLoom()")) {
            Due.fault("the constructors are not those of the face");
        }
        if (!Modifier.isFinal(MirrorLoom.class.getModifiers()) || !Modifier.isPublic(MirrorLoom.class.getModifiers())) {
            Due.fault("the class is not public and final");
        }
    }

    /** Calls each method with each two of the values, with others beside them, in some states. */
    private static void arguments() throws Exception {
        for (Method m : MirrorLoom.class.getDeclaredMethods()) {
            if (!Modifier.isPublic(m.getModifiers())) {
                continue;
            }
            MirrorLoom loom = new MirrorLoom();
            int calls = 0;
            for (int first : VALUES) {
                for (int second : VALUES) {
                    int[] n = {first, second, VALUES[calls % VALUES.length], VALUES[calls / 3 % 20], VALUES[calls / 7 % 12]};
                    if (calls % 200 == 0) {
                        loom = new MirrorLoom();
                        prepare(loom, calls / 200);
                    }
                    calls++;
                    Object[] arguments = new Object[m.getParameterCount()];
                    for (int k = 0; k < arguments.length; k++) {
                        arguments[k] = n[(k + calls % 2) % n.length];
                    }
                    call(loom, m, arguments);
                }
            }
        }
    }

    private static void prepare(MirrorLoom loom, int kind) {
        if (kind == 0) {
            return;
        }
        loom.begin(kind == 1 ? 20 : kind == 2 ? 1 : 7, kind == 3 ? 1 : 16);
        loom.fill(0, 0, 0, 0, 1);
        for (int k = 0; k < 8 * kind && k < 16; k++) {
            loom.addLot(k % 2, 999, k);
        }
        loom.weave(16);
        loom.setLimit(1);
        for (char c : "weave 1;undo 1;sew 0; limit 2; cloth 3 4;".toCharArray()) {
            loom.type(c);
        }
    }

    private static void call(MirrorLoom loom, Method m, Object[] arguments) throws Exception {
        try {
            m.invoke(loom, arguments);
        } catch (java.lang.reflect.InvocationTargetException e) {
            Class<?> kind = e.getCause().getClass();
            boolean told = false;
            for (Class<?> c : m.getExceptionTypes()) {
                told |= c == kind;
            }
            if (!told) {
                Due.fault(m.getName() + java.util.Arrays.toString(arguments) + " threw " + e.getCause());
            }
        }
    }

    public static void main(String[] args) throws Exception {
        face();
        members();
        arguments();
        Due.end("FaceTest");
    }
}
