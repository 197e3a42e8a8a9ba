/** Hands that change a disc bit by bit, where a test needs a spoil that no call of the face makes at once. */
final class DiscHand {
    static final int SIGN = 0b100000000001000000000010;

    private DiscHand() {
    }

    static CompactDisc pressed(int bytes, int seed) {
        CompactDisc x = new CompactDisc();
        x.fill(bytes, seed);
        x.press();
        return x;
    }

    /** A disc of so many bytes all of whose bits are 0. */
    static CompactDisc blank(int bytes) {
        CompactDisc x = pressed(bytes, 1);
        x.scratch(0, 600);
        return x;
    }

    /** Turns the bits of a place on, highest first, where the pattern has a 1. */
    static void draw(CompactDisc x, int from, int pattern, int many) {
        for (int k = 0; k < many; k++) {
            if ((pattern >>> (many - 1 - k) & 1) == 1) {
                x.flip(from + k);
            }
        }
    }

    static void drawSign(CompactDisc x, int from) {
        draw(x, from, SIGN, 24);
    }

    /** Bit 0 of the word of byte i of a disc frame. */
    static int wordStart(int frame, int i) {
        return 588 * frame + 27 + 17 * (i + 1);
    }

    private static boolean isTurned(int i) {
        return i >= 12 && i <= 15 || i >= 28;
    }

    /** The disc frame with place i of inner word w. */
    static int frameOf(int w, int i) {
        return i % 2 == 0 ? w + 1 : w;
    }

    /** Place i of inner word w as it stands on the disc. */
    static int place(CompactDisc x, int w, int i) {
        int b = x.read(x.word(frameOf(w, i), i + 1));
        return isTurned(i) ? 255 - b : b;
    }

    static void setPlace(CompactDisc x, int w, int i, int b) {
        int frame = frameOf(w, i);
        int turn = x.word(frame, i + 1) ^ x.spell(isTurned(i) ? 255 - b : b);
        draw(x, wordStart(frame, i), turn, 14);
    }

    /** Makes the word of place i of inner word w one that is none of the 256. */
    static void unspell(CompactDisc x, int w, int i) {
        int frame = frameOf(w, i);
        // Three ones side by side are in no word.
        int turn = x.word(frame, i + 1) & 0b11111110000000 ^ 0b11100000000000;
        draw(x, wordStart(frame, i), turn, 14);
    }

    /** Makes inner word w fail, without a touch of another one: its odd places stand alone in frame w. */
    static void failInner(CompactDisc x, int w) {
        for (int i = 1; i < 11; i += 2) {
            unspell(x, w, i);
        }
    }

    /** Another word of the code in the place of inner word w, with another byte at one place besides its checks. */
    static void swapInner(CompactDisc x, int w, int i, int added) {
        CompactDisc bench = new CompactDisc();
        for (int k = 0; k < 28; k++) {
            bench.put(k, place(x, w, k));
        }
        bench.put(i, bench.at(i) ^ added);
        bench.seal(true);
        setPlace(x, w, i, bench.at(i));
        for (int k = 28; k < 32; k++) {
            setPlace(x, w, k, bench.at(k));
        }
    }

    /** A wrong byte at place i of outer word v that no inner word notices. */
    static void spoilOuter(CompactDisc x, int v, int i, int added) {
        swapInner(x, v + 4 * i, i, added);
    }
}
