import java.util.ArrayList;
import java.util.List;
import java.util.function.Supplier;
import java.util.function.ToIntFunction;

/**
 * "What cannot be done answers NONE, false or what is told, and changes nothing.": every refusal of the
 * document, in every state in which it is one, on an object that must then show what it showed before.
 */
public final class RefusalTest {
    private static final Tally TALLY = new Tally();
    private static final int LOW = Integer.MIN_VALUE;
    private static final int HIGH = Integer.MAX_VALUE;

    /** The frame whose first bit's number, cut to 32 bits, is 500. */
    private static final int WRAPPED = 7304367;

    private static final class Refusal {
        private final String name;
        private final int want;
        private final ToIntFunction<CompactDisc> call;

        Refusal(String name, int want, ToIntFunction<CompactDisc> call) {
            this.name = name;
            this.want = want;
            this.call = call;
        }
    }

    private static final class State {
        private final String name;
        private final Supplier<CompactDisc> way;
        private final int stride;
        private final boolean full;
        private final int length;
        private final boolean played;
        private final List<Refusal> refusals = new ArrayList<>();

        State(String name, Supplier<CompactDisc> way, int stride, boolean full) {
            this.name = name;
            this.way = way;
            this.stride = stride;
            this.full = full;
            CompactDisc x = way.get();
            this.length = x.length();
            this.played = x.told(6) != -1;
        }

        void none(String call, ToIntFunction<CompactDisc> f) {
            refusals.add(new Refusal(call, -1, f));
        }

        void answers(String call, int want, ToIntFunction<CompactDisc> f) {
            refusals.add(new Refusal(call, want, f));
        }
    }

    public static void main(String[] args) {
        State[] states = {
            new State("new", CompactDisc::new, 1, false),
            new State("fed", RefusalTest::fed, 1, false),
            new State("pressed", RefusalTest::pressed, 1, false),
            new State("played", RefusalTest::played, 1, false),
            new State("emptied", RefusalTest::emptied, 1, false),
            new State("pressed empty", RefusalTest::pressedEmpty, 1, false),
            new State("full", RefusalTest::full, 23, true),
        };
        for (State state : states) {
            tellStream(state);
            tellBeside(state);
            tellDisc(state);
            tellSpoils(state);
            tellPlaying(state);
            tellPlayed(state);
            tellBench(state);
            refuseAll(state);
        }
        TALLY.end();
    }

    private static CompactDisc fed() {
        CompactDisc x = new CompactDisc();
        x.fill(29, 77);
        x.begin(4444);
        x.entry(0, 5, 7, 0);
        x.entry(1, 6, 8, 9);
        for (int i = 0; i < 32; i++) {
            x.put(i, 8 * i + 3);
        }
        x.mark(0, true);
        x.mark(17, true);
        x.mark(31, true);
        return x;
    }

    private static CompactDisc pressed() {
        CompactDisc x = fed();
        x.press();
        x.scratch(17, 3);
        x.noise(40, 2, 9);
        x.slip(30000, 13);
        x.flip(0);
        x.flip(x.length() - 1);
        return x;
    }

    /** Stream, disc and entries are others by now than those that were played. */
    private static CompactDisc played() {
        CompactDisc x = pressed();
        x.flip(0);
        x.play(1, 1, 20);
        x.feed(0x1234, 2);
        x.noise(3, 20, 5);
        x.slip(500, -7);
        x.flip(x.length() - 1);
        x.entry(1, 9, 9, 0);
        x.begin(75);
        return x;
    }

    private static CompactDisc emptied() {
        CompactDisc x = fed();
        x.press();
        for (int k = 0; k < 111; k++) {
            x.slip(0, -600);
        }
        x.play(2, 2, 3);
        return x;
    }

    private static CompactDisc pressedEmpty() {
        CompactDisc x = played();
        x.wipe();
        x.press();
        return x;
    }

    private static CompactDisc full() {
        CompactDisc x = new CompactDisc();
        x.fill(11712, 3);
        for (int k = 0; k < 20; k++) {
            x.entry(k % 3, k % 16, 1 + k, k % 2);
        }
        x.begin(400000);
        x.press();
        for (int k = 0; k < 12; k++) {
            x.slip(588 * 50 * k, 600);
        }
        x.slip(12345, 588);
        x.noise(10, 4, 4);
        x.play(2, 1, 20);
        x.mark(4, true);
        return x;
    }

    private static void tellStream(State s) {
        for (int n : new int[] {0, 9, -1, LOW, HIGH}) {
            s.none("feed(-1, " + n + ")", x -> x.feed(-1L, n));
        }
        for (int n : new int[] {-1, 11713, LOW, HIGH}) {
            s.none("fill(" + n + ", 1)", x -> x.fill(n, 1));
        }
        for (int i : new int[] {-1, 11712, LOW, HIGH}) {
            s.none("streamAt(" + i + ")", x -> x.streamAt(i));
        }
        if (s.full) {
            s.none("feed(1, 1)", x -> x.feed(1, 1));
            s.none("feed(1, 8)", x -> x.feed(1, 8));
            s.none("fill(1, 1)", x -> x.fill(1, 1));
        }
    }

    private static void tellBeside(State s) {
        for (int section : new int[] {-1, 400001, LOW, HIGH}) {
            s.answers("begin(" + section + ")", 0, x -> x.begin(section) ? 1 : 0);
        }
        int[][] wrong = {{-1, 0, 1, 0}, {10, 0, 1, 0}, {0, -1, 1, 0}, {0, 16, 1, 0}, {0, 0, 0, 0}, {0, 0, 100, 0},
            {0, 0, 1, -1}, {0, 0, 1, 100}, {LOW, LOW, LOW, LOW}, {HIGH, HIGH, HIGH, HIGH}};
        for (int[] e : wrong) {
            s.none("entry" + List.of(e[0], e[1], e[2], e[3]), x -> x.entry(e[0], e[1], e[2], e[3]));
        }
        if (s.full) {
            s.none("a 21st entry", x -> x.entry(0, 1, 99, 98));
        }
    }

    private static void tellDisc(State s) {
        int frames = s.way.get().frames();
        for (int i : new int[] {-1, s.length, LOW, HIGH}) {
            s.answers("bits(" + i + ")", 0, x -> x.bits(i));
        }
        for (int k : new int[] {-1, 34, LOW, HIGH}) {
            s.none("word(0, " + k + ")", x -> x.word(0, k));
            s.none("joint(0, " + k + ")", x -> x.joint(0, k));
        }
        s.none("word(0, 33)", x -> x.word(0, 33));
        for (int f : new int[] {-1, frames, WRAPPED, LOW, HIGH}) {
            s.none("word(" + f + ", 0)", x -> x.word(f, 0));
            s.none("joint(" + f + ", 0)", x -> x.joint(f, 0));
        }
        for (int n : new int[] {-1, s.length + 1, LOW, HIGH}) {
            s.answers("balance(" + n + ")", -1000000, x -> x.balance(n));
        }
        int signs = s.way.get().signs();
        for (int i : new int[] {-1, signs, LOW, HIGH}) {
            s.none("signAt(" + i + ")", x -> x.signAt(i));
        }
    }

    private static void tellSpoils(State s) {
        for (int i : new int[] {-1, s.length, LOW, HIGH}) {
            s.answers("flip(" + i + ")", 0, x -> x.flip(i) ? 1 : 0);
        }
        int behind = (s.length + 587) / 588;
        for (int f : new int[] {-1, behind, WRAPPED, LOW, HIGH}) {
            s.none("scratch(" + f + ", 1)", x -> x.scratch(f, 1));
            s.none("noise(" + f + ", 1, 5)", x -> x.noise(f, 1, 5));
        }
        for (int many : new int[] {-1, 601, LOW, HIGH}) {
            s.none("scratch(0, " + many + ")", x -> x.scratch(0, many));
            s.none("noise(0, " + many + ", 5)", x -> x.noise(0, many, 5));
        }
        for (int i : new int[] {-1, s.length + 1, LOW, HIGH}) {
            s.none("slip(" + i + ", 1)", x -> x.slip(i, 1));
            s.none("slip(" + i + ", -1)", x -> x.slip(i, -1));
            s.none("slip(" + i + ", 0)", x -> x.slip(i, 0));
        }
        for (int n : new int[] {-601, 601, LOW, HIGH}) {
            s.none("slip(0, " + n + ")", x -> x.slip(0, n));
        }
        if (s.full) {
            s.none("slip(0, 1)", x -> x.slip(0, 1));
            s.none("slip(360000, 600)", x -> x.slip(360000, 600));
        }
    }

    private static void tellPlaying(State s) {
        int[][] wrong = {{-1, 0, 0}, {3, 0, 0}, {0, -1, 0}, {0, 3, 0}, {0, 0, -1}, {0, 0, 21}, {LOW, 0, 0}, {HIGH, 0, 0},
            {0, LOW, 0}, {0, HIGH, 0}, {0, 0, LOW}, {0, 0, HIGH}};
        for (int[] p : wrong) {
            s.none("play" + List.of(p[0], p[1], p[2]), x -> x.play(p[0], p[1], p[2]));
        }
        // The sentence's "there is no disc" is one that was not pressed, not one that lost its bits.
        if (s.way.get().frames() == 0) {
            s.none("play(2, 2, 20)", x -> x.play(2, 2, 20));
            s.none("slip(0, 0)", x -> x.slip(0, 0));
            s.none("slip(0, 5)", x -> x.slip(0, 5));
            s.none("slip(0, -5)", x -> x.slip(0, -5));
        }
    }

    private static void tellPlayed(State s) {
        int bytes = s.played ? 24 * (s.way.get().frames() - 111) : 0;
        int found = s.played ? s.way.get().told(6) : 0;
        int sections = s.played ? s.way.get().told(7) : 0;
        for (int i : new int[] {-1, bytes, LOW, HIGH}) {
            s.none("played(" + i + ")", x -> x.played(i));
            s.answers("isSure(" + i + ")", 0, x -> x.isSure(i) ? 1 : 0);
        }
        for (int i : new int[] {-1, bytes / 4, LOW, HIGH}) {
            s.answers("heard(" + i + ", false)", 65536, x -> x.heard(i, false));
            s.answers("heard(" + i + ", true)", 65536, x -> x.heard(i, true));
        }
        for (int w : new int[] {-1, found, LOW, HIGH}) {
            s.none("inner(" + w + ")", x -> x.inner(w));
            s.none("outer(" + w + ")", x -> x.outer(w));
        }
        for (int what : new int[] {-1, 8, LOW, HIGH}) {
            s.none("told(" + what + ")", x -> x.told(what));
        }
        for (int what : new int[] {-1, 7, LOW, HIGH}) {
            s.none("q(0, " + what + ")", x -> x.q(0, what));
        }
        for (int k : new int[] {-1, sections, LOW, HIGH}) {
            s.none("q(" + k + ", 0)", x -> x.q(k, 0));
            s.none("q(" + k + ", 6)", x -> x.q(k, 6));
        }
    }

    private static void tellBench(State s) {
        for (int many : new int[] {0, -1, 201, LOW, HIGH}) {
            s.none("burst(" + many + ")", x -> x.burst(many));
        }
        for (int b : new int[] {-1, 256, LOW, HIGH}) {
            s.none("spell(" + b + ")", x -> x.spell(b));
            s.none("put(0, " + b + ")", x -> x.put(0, b));
            s.none("put(31, " + b + ")", x -> x.put(31, b));
        }
        for (int word : new int[] {-1, 0, 16383, 16384, 16384 + 4640, 2049, 18, LOW, HIGH}) {
            s.none("read(" + word + ")", x -> x.read(word));
        }
        for (int i : new int[] {-1, 32, LOW, HIGH}) {
            s.none("put(" + i + ", 200)", x -> x.put(i, 200));
            s.answers("mark(" + i + ", true)", 0, x -> x.mark(i, true) ? 1 : 0);
            s.answers("mark(" + i + ", false)", 0, x -> x.mark(i, false) ? 1 : 0);
            s.none("at(" + i + ")", x -> x.at(i));
        }
        for (int j : new int[] {-1, 4, LOW, HIGH}) {
            s.none("syndrome(true, " + j + ")", x -> x.syndrome(true, j));
            s.none("syndrome(false, " + j + ")", x -> x.syndrome(false, j));
        }
        for (int reach : new int[] {-1, 3, LOW, HIGH}) {
            s.none("mend(true, " + reach + ")", x -> x.mend(true, reach));
            s.none("mend(false, " + reach + ")", x -> x.mend(false, reach));
        }
    }

    /** By tens, so that the calls of one object stay far below 512. */
    private static void refuseAll(State s) {
        for (int from = 0; from < s.refusals.size(); from += 10) {
            List<Refusal> some = s.refusals.subList(from, Math.min(s.refusals.size(), from + 10));
            CompactDisc asked = s.way.get();
            for (Refusal r : some) {
                TALLY.due(s.name + ": " + r.name, r.call.applyAsInt(asked), r.want);
            }
            Supplier<CompactDisc> refused = () -> {
                CompactDisc x = s.way.get();
                for (Refusal r : some) {
                    r.call.applyAsInt(x);
                }
                return x;
            };
            String name = s.name + " behind " + some.get(0).name + " and so on";
            new Twins(TALLY, name, refused, s.way).compare(s.stride);
        }
    }
}
