/** The class and the plain model side by side: each call goes to both, and their answers must be the same. */
final class Pair {
    final CompactDisc disc = new CompactDisc();
    private final PlainModel model = new PlainModel();
    private final Tally tally;
    private final String name;

    Pair(Tally tally, String name) {
        this.tally = tally;
        this.name = name;
    }

    private int same(String call, int got, int want) {
        tally.due(name + ": " + call, got, want);
        return got;
    }

    private boolean same(String call, boolean got, boolean want) {
        tally.due(name + ": " + call, got, want);
        return got;
    }

    int feed(long w, int n) { return same("feed(" + w + ", " + n + ")", disc.feed(w, n), model.feed(w, n)); }
    int fill(int n, int seed) { return same("fill(" + n + ", " + seed + ")", disc.fill(n, seed), model.fill(n, seed)); }
    int wipe() { return same("wipe()", disc.wipe(), model.wipe()); }
    int streamAt(int i) { return same("streamAt(" + i + ")", disc.streamAt(i), model.streamAt(i)); }
    boolean begin(int s) { return same("begin(" + s + ")", disc.begin(s), model.begin(s)); }
    int entry(int s, int c, int t, int x) {
        return same("entry(" + s + ", " + c + ", " + t + ", " + x + ")", disc.entry(s, c, t, x), model.entry(s, c, t, x));
    }
    int plain() { return same("plain()", disc.plain(), model.plain()); }
    int press() { return same("press()", disc.press(), model.press()); }
    int frames() { return same("frames()", disc.frames(), model.frames()); }
    int length() { return same("length()", disc.length(), model.length()); }
    int bits(int i) { return same("bits(" + i + ")", disc.bits(i), model.bits(i)); }
    int word(int f, int k) { return same("word(" + f + ", " + k + ")", disc.word(f, k), model.word(f, k)); }
    int joint(int f, int k) { return same("joint(" + f + ", " + k + ")", disc.joint(f, k), model.joint(f, k)); }
    int balance(int n) { return same("balance(" + n + ")", disc.balance(n), model.balance(n)); }
    int run(boolean longest) { return same("run(" + longest + ")", disc.run(longest), model.run(longest)); }
    int signs() { return same("signs()", disc.signs(), model.signs()); }
    int signAt(int i) { return same("signAt(" + i + ")", disc.signAt(i), model.signAt(i)); }
    boolean flip(int i) { return same("flip(" + i + ")", disc.flip(i), model.flip(i)); }
    int scratch(int f, int m) { return same("scratch(" + f + ", " + m + ")", disc.scratch(f, m), model.scratch(f, m)); }
    int noise(int f, int m, int z) {
        return same("noise(" + f + ", " + m + ", " + z + ")", disc.noise(f, m, z), model.noise(f, m, z));
    }
    int slip(int i, int n) { return same("slip(" + i + ", " + n + ")", disc.slip(i, n), model.slip(i, n)); }
    int play(int i, int o, int w) {
        return same("play(" + i + ", " + o + ", " + w + ")", disc.play(i, o, w), model.play(i, o, w));
    }
    int played(int i) { return same("played(" + i + ")", disc.played(i), model.played(i)); }
    boolean isSure(int i) { return same("isSure(" + i + ")", disc.isSure(i), model.isSure(i)); }
    int heard(int i, boolean r) { return same("heard(" + i + ", " + r + ")", disc.heard(i, r), model.heard(i, r)); }
    int inner(int w) { return same("inner(" + w + ")", disc.inner(w), model.inner(w)); }
    int outer(int v) { return same("outer(" + v + ")", disc.outer(v), model.outer(v)); }
    int told(int what) { return same("told(" + what + ")", disc.told(what), model.told(what)); }
    int q(int s, int what) { return same("q(" + s + ", " + what + ")", disc.q(s, what), model.q(s, what)); }
    int burst(int many) { return same("burst(" + many + ")", disc.burst(many), model.burst(many)); }
    int spell(int b) { return same("spell(" + b + ")", disc.spell(b), model.spell(b)); }
    int read(int w) { return same("read(" + w + ")", disc.read(w), model.read(w)); }
    int put(int i, int b) { return same("put(" + i + ", " + b + ")", disc.put(i, b), model.put(i, b)); }
    boolean mark(int i, boolean is) { return same("mark(" + i + ", " + is + ")", disc.mark(i, is), model.mark(i, is)); }
    int at(int i) { return same("at(" + i + ")", disc.at(i), model.at(i)); }
    void seal(boolean inner) {
        disc.seal(inner);
        model.seal(inner);
    }
    int syndrome(boolean n, int j) { return same("syndrome(" + n + ", " + j + ")", disc.syndrome(n, j), model.syndrome(n, j)); }
    int mend(boolean n, int r) { return same("mend(" + n + ", " + r + ")", disc.mend(n, r), model.mend(n, r)); }

    /** All that the stream, the disc and the bench show. */
    void compareAll() {
        compareDisc();
        comparePlayed();
        compareBench();
    }

    void compareDisc() {
        for (int i = 0; i < length(); i += 32) {
            bits(i);
        }
        frames();
        run(true);
        run(false);
        for (int i = -1; i <= signs(); i++) {
            if (i < 3 || i % 16 == 0 || i > disc.frames() - 2) {
                signAt(i);
            }
        }
        balance(length());
        balance(length() / 2);
        balance(length() / 3 + 1);
    }

    void comparePlayed() {
        int bytes = 24 * Math.max(0, disc.frames() - 111);
        for (int i = -1; i <= bytes; i++) {
            played(i);
            isSure(i);
        }
        for (int i = -1; i <= bytes / 4; i++) {
            heard(i, false);
            heard(i, true);
        }
        int found = Math.max(0, disc.told(6));
        for (int w = -1; w <= found; w++) {
            inner(w);
            outer(w);
        }
        for (int what = -1; what <= 8; what++) {
            told(what);
        }
        for (int s = -1; s <= Math.max(0, disc.told(7)); s++) {
            for (int what = -1; what <= 7; what++) {
                q(s, what);
            }
        }
    }

    void compareBench() {
        for (int i = -1; i <= 32; i++) {
            at(i);
        }
        for (int j = -1; j <= 4; j++) {
            syndrome(true, j);
            syndrome(false, j);
        }
    }
}
