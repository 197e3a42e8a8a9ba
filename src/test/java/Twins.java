import java.util.function.Supplier;

/**
 * Two ways to make an object that must show the same in all it shows. An object is promised for 512 calls
 * only, so both are made anew whenever the next look would pass that.
 */
final class Twins {
    private static final int LOOKS = 330;

    private final Tally tally;
    private final String name;
    private final Supplier<CompactDisc> leftWay;
    private final Supplier<CompactDisc> rightWay;
    private CompactDisc left;
    private CompactDisc right;
    private int looks = LOOKS;

    Twins(Tally tally, String name, Supplier<CompactDisc> leftWay, Supplier<CompactDisc> rightWay) {
        this.tally = tally;
        this.name = name;
        this.leftWay = leftWay;
        this.rightWay = rightWay;
    }

    private void look() {
        if (looks >= LOOKS) {
            left = leftWay.get();
            right = rightWay.get();
            looks = 0;
        }
        looks++;
    }

    private void same(String what, int got, int want) {
        tally.due(name + ": " + what, got, want);
    }

    private void same(String what, boolean got, boolean want) {
        tally.due(name + ": " + what, got, want);
    }

    /** Everything; of long streams and discs only every stride-th byte and every stride-th 32 bits. */
    void compare(int stride) {
        compareStream(stride);
        compareDisc(stride);
        comparePlayed(stride);
        compareBench();
        compareEntries();
    }

    private void compareStream(int stride) {
        CompactDisc probe = leftWay.get();
        int bytes = probe.fill(0, 0);
        for (int i = 0; i <= bytes; i += i < bytes - stride ? stride : 1) {
            look();
            same("streamAt(" + i + ")", left.streamAt(i), right.streamAt(i));
        }
        look();
        same("bytes", left.fill(0, 0), right.fill(0, 0));
    }

    private void compareDisc(int stride) {
        look();
        same("frames()", left.frames(), right.frames());
        look();
        int length = left.length();
        same("length()", length, right.length());
        for (int i = 0; i < length; i += 32 * stride) {
            look();
            same("bits(" + i + ")", left.bits(i), right.bits(i));
        }
        look();
        same("the last bits", left.bits(length - 32), right.bits(length - 32));
        look();
        same("balance", left.balance(length), right.balance(length));
        look();
        same("longest run", left.run(true), right.run(true));
        look();
        same("shortest run", left.run(false), right.run(false));
        look();
        same("signs()", left.signs(), right.signs());
    }

    private void comparePlayed(int stride) {
        for (int what = 0; what < 8; what++) {
            look();
            same("told(" + what + ")", left.told(what), right.told(what));
        }
        int bytes = 24 * Math.max(0, left.frames() - 111);
        for (int i = 0; i < bytes; i += stride) {
            look();
            same("played(" + i + ")", left.played(i), right.played(i));
            look();
            same("isSure(" + i + ")", left.isSure(i), right.isSure(i));
            look();
            same("heard(" + i + ")", left.heard(i / 4, i % 4 > 1), right.heard(i / 4, i % 4 > 1));
        }
        int found = left.told(6);
        for (int w = 0; w < found; w += stride) {
            look();
            same("inner(" + w + ")", left.inner(w), right.inner(w));
            look();
            same("outer(" + w + ")", left.outer(w), right.outer(w));
        }
        for (int k = 0; k < 14; k++) {
            look();
            same("q(" + k / 7 + ", " + k % 7 + ")", left.q(k / 7, k % 7), right.q(k / 7, k % 7));
        }
    }

    private void compareBench() {
        for (int i = 0; i < 32; i++) {
            look();
            same("at(" + i + ")", left.at(i), right.at(i));
        }
        for (int i = 0; i < 32; i++) {
            look();
            same("mark " + i, left.mark(i, false), right.mark(i, false));
        }
    }

    /** Last, as it takes the entries away: what the next disc tells beside, and how many entries there were. */
    private void compareEntries() {
        looks = LOOKS;
        look();
        left.fill(left.fill(0, 0) == 0 ? 1 : 0, 0);
        right.fill(right.fill(0, 0) == 0 ? 1 : 0, 0);
        same("press()", left.press(), right.press());
        for (int f = 0; f < Math.min(200, left.frames()); f++) {
            same("word(" + f + ", 0)", left.word(f, 0), right.word(f, 0));
        }
        same("plain()", left.plain(), right.plain());
        looks = LOOKS;
    }
}
