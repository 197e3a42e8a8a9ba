import java.lang.management.ManagementFactory;
import java.lang.reflect.Constructor;
import java.lang.reflect.Field;
import java.lang.reflect.Method;
import java.lang.reflect.Modifier;
import java.nio.file.Files;
import java.nio.file.Path;
import java.util.Arrays;
import java.util.Set;
import java.util.TreeSet;

/** The public face and no other, no room taken by calls, and no throw for any arguments. */
public final class FaceTest {
    private static final Tally TALLY = new Tally();
    private static final String[] FACE = {
        "int feed(long,int)", "int fill(int,int)", "int wipe()", "int streamAt(int)", "boolean begin(int)",
        "int entry(int,int,int,int)", "int plain()", "int press()", "int frames()", "int length()", "int bits(int)",
        "int word(int,int)", "int joint(int,int)", "int balance(int)", "int run(boolean)", "int signs()",
        "int signAt(int)", "boolean flip(int)", "int scratch(int,int)", "int noise(int,int,int)",
        "int slip(int,int)", "int play(int,int,int)", "int played(int)", "boolean isSure(int)",
        "int heard(int,boolean)", "int inner(int)", "int outer(int)", "int told(int)", "int q(int,int)",
        "int burst(int)", "int spell(int)", "int read(int)", "int put(int,int)", "boolean mark(int,boolean)",
        "int at(int)", "void seal(boolean)", "int syndrome(boolean,int)", "int mend(boolean,int)"};

    public static void main(String[] args) throws Exception {
        members();
        nested();
        source();
        room();
        wildArguments();
        TALLY.end();
    }

    private static String text(Method m) {
        StringBuilder parameters = new StringBuilder();
        for (Class<?> type : m.getParameterTypes()) {
            parameters.append(parameters.length() == 0 ? "" : ",").append(type.getName());
        }
        return m.getReturnType().getName() + " " + m.getName() + "(" + parameters + ")";
    }

    private static void members() {
        Set<String> want = new TreeSet<>(Arrays.asList(FACE));
        Set<String> got = new TreeSet<>();
        Set<String> names = new TreeSet<>();
        for (Method m : CompactDisc.class.getDeclaredMethods()) {
            if (Modifier.isPublic(m.getModifiers())) {
                got.add(text(m));
                names.add(m.getName());
                TALLY.due("static " + m, Modifier.isStatic(m.getModifiers()), false);
            }
        }
        TALLY.due("face " + got, got.equals(want), true);
        for (Method m : CompactDisc.class.getDeclaredMethods()) {
            if (!Modifier.isPublic(m.getModifiers())) {
                TALLY.due("private " + m, Modifier.isPrivate(m.getModifiers()), true);
                TALLY.due("bears a public name: " + m, names.contains(m.getName()), false);
            }
        }
        for (Field f : CompactDisc.class.getDeclaredFields()) {
            boolean shown = f.getName().equals("NONE") || f.getName().equals("SILENT");
            TALLY.due("field " + f, Modifier.isPublic(f.getModifiers()), shown);
            TALLY.due("hidden " + f, Modifier.isPrivate(f.getModifiers()), !shown);
        }
        Constructor<?>[] made = CompactDisc.class.getDeclaredConstructors();
        TALLY.due("constructors", made.length, 1);
        TALLY.due("final", Modifier.isFinal(CompactDisc.class.getModifiers()), true);
    }

    private static void nested() {
        Class<?>[] classes = CompactDisc.class.getDeclaredClasses();
        TALLY.due("classes " + classes.length, classes.length <= 11, true);
        Set<String> names = new TreeSet<>();
        for (String face : FACE) {
            names.add(face.substring(face.indexOf(' ') + 1, face.indexOf('(')));
        }
        for (Class<?> c : classes) {
            TALLY.due("static " + c, Modifier.isStatic(c.getModifiers()), true);
            TALLY.due("not public " + c, Modifier.isPublic(c.getModifiers()), false);
            for (Method m : c.getDeclaredMethods()) {
                TALLY.due("bears a public name: " + m, names.contains(m.getName()), false);
            }
            for (Field f : c.getDeclaredFields()) {
                boolean kept = !Modifier.isStatic(f.getModifiers()) || Modifier.isFinal(f.getModifiers());
                TALLY.due("static state " + f, kept, true);
            }
        }
    }

    private static void source() throws Exception {
        String text = Files.readString(Path.of("src/main/java/CompactDisc.java"));
        String[] barred = {"->", "::", "throw", "catch", "try ", "finally", "synchronized", "assert ", "instanceof",
            "package ", "Exact(", "System.", "protected", "Random", "double", "float"};
        for (String word : barred) {
            TALLY.due("'" + word + "' in the source", text.contains(word), false);
        }
        TALLY.due("imports", text.split("\nimport ", -1).length + (text.startsWith("import ") ? 1 : 0), 2);
    }

    /** Calls use what the constructor made: a long run may take no more room than a short one. */
    private static void room() {
        com.sun.management.ThreadMXBean threads =
                (com.sun.management.ThreadMXBean) ManagementFactory.getThreadMXBean();
        long self = Thread.currentThread().getId();
        threads.getThreadAllocatedBytes(self);
        long start = threads.getThreadAllocatedBytes(self);
        CompactDisc x = new CompactDisc();
        long made = threads.getThreadAllocatedBytes(self);
        TALLY.due("a new object takes " + (made - start), made - start < 250000, true);
        x.fill(11712, 3);
        long before = threads.getThreadAllocatedBytes(self);
        for (int k = 0; k < 30; k++) {
            x.entry(k % 3, 1, 2, k % 2);
            x.press();
            x.noise(40, 20, k);
            x.slip(100000, k);
            x.play(2, 2, 20);
            x.q(1, 4);
            x.signs();
            x.run(true);
            x.balance(x.length());
            x.seal(true);
            x.mend(true, 2);
        }
        long after = threads.getThreadAllocatedBytes(self);
        TALLY.due("330 calls take " + (after - before), after - before < 5000, true);
    }

    private static void wildArguments() {
        int[] wild = {Integer.MIN_VALUE, Integer.MIN_VALUE + 1, -65537, -600, -1, 0, 1, 2, 31, 32, 33, 600, 352211,
            360000, 7304291, Integer.MAX_VALUE - 1, Integer.MAX_VALUE};
        for (int state = 0; state < 4; state++) {
            CompactDisc x = new CompactDisc();
            if (state > 0) {
                x.fill(state == 1 ? 1 : 11712, 5);
                x.press();
            }
            if (state == 3) {
                x.play(2, 2, 20);
            }
            int calls = 0;
            for (int a : wild) {
                for (int b : wild) {
                    try {
                        callAll(x, a, b);
                        calls++;
                    } catch (RuntimeException e) {
                        TALLY.due(e + " in state " + state + " with " + a + " and " + b, 1, 0);
                    }
                }
            }
            TALLY.due("calls in state " + state, calls, wild.length * wild.length);
        }
    }

    private static void callAll(CompactDisc x, int a, int b) {
        x.feed((long) a << 20 | b, b);
        x.streamAt(a);
        x.begin(a);
        x.entry(a, b, a, b);
        x.bits(a);
        x.word(a, b);
        x.joint(a, b);
        x.balance(a);
        x.signAt(a);
        x.flip(a);
        x.scratch(a, b);
        x.noise(a, b, a);
        x.slip(a, b);
        x.play(a, b, a);
        x.played(a);
        x.isSure(a);
        x.heard(a, b > 0);
        x.inner(a);
        x.outer(a);
        x.told(a);
        x.q(a, b);
        x.burst(a);
        x.spell(a);
        x.read(a);
        x.put(a, b);
        x.mark(a, b > 0);
        x.at(a);
        x.syndrome(b > 0, a);
        x.mend(b > 0, a);
        x.fill(a, b);
    }
}
