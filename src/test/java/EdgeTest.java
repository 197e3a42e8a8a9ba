/**
 * The edges of the promises, in the document's order: each sentence that names one has a group of its own,
 * labelled with the promise's number and the sentence. No object is called more than 512 times. That a
 * refused call changes nothing is looked at, for all of them, in RefusalTest.
 */
public final class EdgeTest {
    private static final Tally TALLY = new Tally();
    private static final int LOW = Integer.MIN_VALUE;
    private static final int HIGH = Integer.MAX_VALUE;
    private static String sentence = "";

    private static void edge(int promise, String words) {
        sentence = promise + " \"" + words + "\": ";
    }

    private static void due(String what, long got, long want) {
        TALLY.due(sentence + what, got, want);
    }

    private static void due(String what, boolean got, boolean want) {
        TALLY.due(sentence + what, got, want);
    }

    public static void main(String[] args) {
        newObject();
        feed();
        fill();
        wipeAndStreamAt();
        begin();
        entry();
        plain();
        press();
        framesAndLength();
        bits();
        word();
        joint();
        balance();
        run();
        signs();
        flip();
        scratch();
        noise();
        slipComesAndGoes();
        slipRefused();
        play();
        played();
        fates();
        told();
        q();
        burst();
        words();
        bench();
        seal();
        syndrome();
        mend();
        TALLY.end();
    }

    private static void newObject() {
        // Another object, used before, must leave no trace in a new one.
        CompactDisc used = DiscHand.pressed(100, 3);
        used.play(2, 2, 2);
        used.put(5, 5);
        used.mark(6, true);
        used.entry(0, 1, 2, 0);
        used.begin(9);
        CompactDisc x = new CompactDisc();
        edge(1, "An empty stream");
        due("streamAt(0)", x.streamAt(0), -1);
        due("wipe()", x.wipe(), 0);
        edge(1, "no disc (0 frames)");
        due("frames()", x.frames(), 0);
        due("length()", x.length(), 0);
        due("slip(0, 0)", x.slip(0, 0), -1);
        due("play(0, 0, 0)", x.play(0, 0, 0), -1);
        due("scratch(0, 0)", x.scratch(0, 0), -1);
        due("noise(0, 0, 0)", x.noise(0, 0, 0), -1);
        due("flip(0)", x.flip(0), false);
        due("word(0, 0)", x.word(0, 0), -1);
        due("joint(0, 0)", x.joint(0, 0), -1);
        edge(1, "nothing was played");
        for (int what = 0; what < 8; what++) {
            due("told(" + what + ")", x.told(what), -1);
            due("q(0, " + what + ")", x.q(0, what), -1);
        }
        due("played(0)", x.played(0), -1);
        due("isSure(0)", x.isSure(0), false);
        due("heard(0)", x.heard(0, true), 65536);
        due("inner(0)", x.inner(0), -1);
        due("outer(0)", x.outer(0), -1);
        edge(1, "a bench of 32 bytes 0, none of them marked");
        for (int i = 0; i < 32; i++) {
            due("at(" + i + ")", x.at(i), 0);
            due("mark(" + i + ")", x.mark(i, false), false);
        }
        edge(1, "begin 0, no entries");
        due("plain()", x.plain(), 0);
        x.feed(0, 1);
        x.press();
        x.play(0, 0, 0);
        int[] want = {1, 0, 1, 1, 0, 0, 0};
        for (int what = 0; what < 7; what++) {
            due("q(0, " + what + ")", x.q(0, what), want[what]);
        }
    }

    private static void feed() {
        edge(2, "The n lowest bytes of w, the highest of them first");
        CompactDisc x = new CompactDisc();
        int fed = 0;
        for (int n = 1; n <= 8; n++) {
            due("n = " + n, x.feed(0x8182838485868788L, n), fed + n);
            for (int k = 0; k < n; k++) {
                due("byte " + k + " of " + n, x.streamAt(fed + k), 0x88 - n + 1 + k);
            }
            fed += n;
        }
        edge(2, "n is not 1 .. 8");
        for (int n : new int[] {0, 9, -1, 16, 257, LOW, HIGH}) {
            due("n = " + n, x.feed(1, n), -1);
        }
        due("as many as before", x.fill(0, 0), 36);
        edge(2, "or there would be more than 11712");
        for (int n = 1; n <= 8; n++) {
            x = new CompactDisc();
            x.fill(11712 - n + 1, 1);
            int last = x.streamAt(11712 - n);
            due(n + " bytes, one too many", x.feed(-1L, n), -1);
            due("none came", x.streamAt(11712 - n + 1), -1);
            due("none was changed", x.streamAt(11712 - n), last);
            x = new CompactDisc();
            x.fill(11712 - n, 1);
            due(n + " bytes, just so many", x.feed(0x0102030405060708L, n), 11712);
            due("the last one", x.streamAt(11711), 8);
            due("no more", x.feed(1, 1), -1);
        }
    }

    private static void fill() {
        edge(3, "z becomes z * 1664525 + 1013904223 (wrapping), and the byte is z moved right by 24, zeros coming in");
        for (int seed : new int[] {0, 1, -1, LOW, HIGH, 1 << 24}) {
            CompactDisc x = new CompactDisc();
            x.fill(50, seed);
            long z = seed & 0xffffffffL;
            for (int i = 0; i < 50; i++) {
                z = (z * 1664525L + 1013904223L) % 0x100000000L;
                due("seed " + seed + ", byte " + i, x.streamAt(i), z / (1 << 24));
            }
        }
        edge(3, "z is seed at first");
        CompactDisc x = new CompactDisc();
        x.fill(3, 9);
        x.fill(3, 9);
        for (int i = 0; i < 3; i++) {
            due("the same again", x.streamAt(i + 3), x.streamAt(i));
        }
        edge(3, "n is below 0");
        x = new CompactDisc();
        due("0", x.fill(0, 1), 0);
        due("-1", x.fill(-1, 1), -1);
        due("lowest", x.fill(LOW, 1), -1);
        edge(3, "or there would be more than 11712");
        due("empty, one too many", x.fill(11713, 1), -1);
        due("empty, the most", x.fill(11712, 1), 11712);
        due("full, 0", x.fill(0, 1), 11712);
        due("full, 1", x.fill(1, 1), -1);
        x.wipe();
        x.feed(7, 1);
        due("one too many", x.fill(11712, 1), -1);
        // A sum of two ints would wrap here and be below 11712.
        due("far too many", x.fill(HIGH, 1), -1);
        due("nothing came", x.streamAt(1), -1);
        due("just so many", x.fill(11711, 1), 11712);
        due("what was there", x.streamAt(0), 7);
    }

    private static void wipeAndStreamAt() {
        edge(4, "The stream is empty then: how many bytes it had");
        CompactDisc x = new CompactDisc();
        due("empty", x.wipe(), 0);
        x.feed(1, 1);
        due("one", x.wipe(), 1);
        due("empty again", x.wipe(), 0);
        due("no byte 0", x.streamAt(0), -1);
        x.fill(11712, 1);
        due("full", x.wipe(), 11712);
        due("room for all", x.fill(11712, 2), 11712);
        x.wipe();
        x.feed(5, 1);
        due("behind nothing", x.streamAt(0), 5);
        due("old bytes stay away", x.streamAt(1), -1);
        x.press();
        x.play(0, 0, 0);
        for (int i = 1; i < 24; i++) {
            due("the frame is filled with 0, not with old bytes", x.played(i), 0);
        }
        x.wipe();
        due("the disc stays", x.length(), 112 * 588);
        due("what was played stays", x.played(0), 5);

        edge(5, "NONE when there is none");
        x = new CompactDisc();
        due("empty, 0", x.streamAt(0), -1);
        x.feed(0x00ffL, 2);
        due("first", x.streamAt(0), 0);
        due("last", x.streamAt(1), 255);
        for (int i : new int[] {-1, 2, 11711, 11712, LOW, HIGH}) {
            due("byte " + i, x.streamAt(i), -1);
        }
        x.fill(11710, 5);
        due("full, last", x.streamAt(11711) >= 0, true);
        due("full, behind", x.streamAt(11712), -1);
    }

    private static int placeOf(CompactDisc x, int section) {
        x.play(0, 0, 0);
        return x.q(section, 5);
    }

    private static void begin() {
        edge(6, "False: it is not 0 .. 400000");
        CompactDisc x = new CompactDisc();
        x.fill(24 * 90, 1);
        due("0", x.begin(0), true);
        x.press();
        due("place", placeOf(x, 1), 1);
        due("400000", x.begin(400000), true);
        for (int section : new int[] {-1, 400001, LOW, HIGH}) {
            due("" + section, x.begin(section), false);
        }
        x.press();
        due("the last that was taken", placeOf(x, 1), 400001);
        edge(6, "for discs that are pressed then");
        x.begin(12);
        due("not of this one", placeOf(x, 0), 400000);
        x.press();
        due("of the next", placeOf(x, 0), 12);
        edge(6, "n / 4500 minutes, n / 75 modulo 60 seconds, and n modulo 75 \"hundredths\"");
        for (int section : new int[] {74, 749, 4499, 44999, 399999}) {
            x.begin(section);
            x.press();
            due("the section of the wrap " + section, placeOf(x, 0), section);
            due("and the next", placeOf(x, 1), section + 1);
        }
        due("figures before 10 minutes", figuresOf(44999), 0x095974);
        due("figures of 10 minutes", figuresOf(45000), 0x100000);
        due("figures of the most", figuresOf(400000), 0x885325);
        x = new CompactDisc();
        x.fill(11712, 1);
        x.begin(400000);
        x.press();
        due("the last whole section of the longest disc", placeOf(x, 5), 400005);
    }

    /** The six figures of the place of section 0, read off the words beside. */
    private static int figuresOf(int section) {
        CompactDisc x = new CompactDisc();
        x.feed(0, 1);
        x.begin(section);
        x.press();
        int figures = 0;
        for (int k = 56; k < 80; k++) {
            figures = 2 * figures + x.read(x.word(2 + k, 0)) / 64;
        }
        return figures;
    }

    private static void entry() {
        edge(7, "section is not 0 .. 9, control not 0 .. 15, track not 1 .. 99, index not 0 .. 99");
        int[][] wrong = {{-1, 0, 1, 0}, {10, 0, 1, 0}, {0, -1, 1, 0}, {0, 16, 1, 0}, {0, 0, 0, 0}, {0, 0, 100, 0},
            {0, 0, -1, 0}, {0, 0, 1, -1}, {0, 0, 1, 100}};
        int[][] right = {{0, 0, 1, 0}, {9, 0, 1, 0}, {0, 15, 1, 0}, {0, 0, 99, 0}, {0, 0, 1, 99}, {9, 15, 99, 99}};
        CompactDisc x = new CompactDisc();
        int many = 0;
        for (int[] r : right) {
            for (int[] w : wrong) {
                due("refused", x.entry(w[0], w[1], w[2], w[3]), -1);
            }
            many++;
            due("taken", x.entry(r[0], r[1], r[2], r[3]), many);
        }
        for (int k = 0; k < 4; k++) {
            for (int far : new int[] {LOW, HIGH}) {
                int[] e = {0, 0, 1, 0};
                e[k] = far;
                due("far", x.entry(e[0], e[1], e[2], e[3]), -1);
            }
        }
        for (int[] r : right) {
            x = new CompactDisc();
            x.feed(0, 1);
            x.entry(r[0], r[1], r[2], r[3]);
            x.press();
            x.play(0, 0, 0);
            boolean holds = r[0] == 0;
            due("control", x.q(0, 1), holds ? r[1] : 0);
            due("track", x.q(0, 2), holds ? r[2] : 1);
            due("index", x.q(0, 3), holds ? r[3] : 1);
            due("a pause in all 96", x.q(0, 6), holds && r[3] == 0 ? 96 : 0);
        }
        edge(7, "or there are 20");
        x = new CompactDisc();
        x.feed(0, 1);
        for (int k = 1; k <= 20; k++) {
            due("entry " + k, x.entry(0, k % 16, k, k), k);
        }
        due("a 21st", x.entry(0, 9, 99, 99), -1);
        due("a wrong one", x.entry(0, 9, 99, 100), -1);
        x.press();
        x.play(0, 0, 0);
        due("the 20th holds", x.q(0, 2), 20);
        edge(7, "for discs that are pressed then");
        x = new CompactDisc();
        x.feed(0, 1);
        x.press();
        x.entry(0, 3, 4, 5);
        x.play(0, 0, 0);
        due("not this one", x.q(0, 2), 1);
        x.press();
        x.play(0, 0, 0);
        due("the next", x.q(0, 2), 4);
    }

    private static void plain() {
        edge(8, "There are no entries then: how many there were");
        CompactDisc x = new CompactDisc();
        due("none", x.plain(), 0);
        x.feed(0, 1);
        for (int k = 1; k <= 20; k++) {
            x.entry(0, 7, 8, 0);
        }
        x.press();
        due("20", x.plain(), 20);
        due("none again", x.plain(), 0);
        x.play(0, 0, 0);
        due("the disc keeps them", x.q(0, 2), 8);
        x.press();
        x.play(0, 0, 0);
        due("the next has none", x.q(0, 2), 1);
        due("nor a pause", x.q(0, 6), 0);
        due("control", x.q(0, 1), 0);
        for (int k = 1; k <= 20; k++) {
            due("room for 20 again", x.entry(9, 0, 1, 1), k);
        }
        due("and no more", x.entry(9, 0, 1, 1), -1);
    }

    private static void press() {
        edge(9, "how many frames that are, 111 more than the stream has");
        int[][] sizes = {{1, 112}, {23, 112}, {24, 112}, {25, 113}, {48, 113}, {49, 114}, {11688, 598}, {11689, 599},
            {11711, 599}, {11712, 599}};
        for (int[] size : sizes) {
            CompactDisc x = new CompactDisc();
            x.fill(size[0], 4);
            due(size[0] + " bytes", x.press(), size[1]);
            due("frames()", x.frames(), size[1]);
            due("length()", x.length(), 588 * size[1]);
            due("the stream stays", x.wipe(), size[0]);
        }
        edge(9, "or 0, and there is no disc then, if it is empty");
        CompactDisc x = new CompactDisc();
        due("new", x.press(), 0);
        x.fill(40, 4);
        x.press();
        x.play(0, 0, 0);
        x.wipe();
        due("another disc before", x.press(), 0);
        due("frames()", x.frames(), 0);
        due("length()", x.length(), 0);
        due("bits(0)", x.bits(0), 0);
        due("word(0, 0)", x.word(0, 0), -1);
        due("joint(0, 0)", x.joint(0, 0), -1);
        due("balance(0)", x.balance(0), 0);
        due("balance(1)", x.balance(1), -1000000);
        due("run", x.run(true), -1);
        due("signs()", x.signs(), 0);
        due("flip(0)", x.flip(0), false);
        due("scratch(0, 1)", x.scratch(0, 1), -1);
        due("slip(0, 1)", x.slip(0, 1), -1);
        due("play", x.play(2, 2, 20), -1);
        due("told(6)", x.told(6), -1);
        edge(9, "Nothing was played then");
        x.fill(40, 4);
        x.press();
        x.play(0, 0, 0);
        due("played", x.told(6), 113);
        x.press();
        nothingWasPlayed(x);
        edge(9, "in place of any disc");
        x = DiscHand.pressed(40, 4);
        int bits = x.bits(1000);
        x.noise(0, 600, 4);
        x.slip(9, 600);
        due("the stream is pressed anew", x.press(), 113);
        due("its length", x.length(), 113 * 588);
        due("its bits", x.bits(1000), bits);
        due("its sign", x.signAt(0), 0);
        Twins twins = new Twins(TALLY, sentence + "pressed again", EdgeTest::pressedAgain, () -> DiscHand.pressed(40, 4));
        twins.compare(1);
        // A long disc before a short one leaves nothing behind the short one's end.
        x = DiscHand.pressed(11712, 4);
        x.wipe();
        x.fill(40, 4);
        x.press();
        due("nothing behind the end", x.bits(113 * 588), 0);
        due("nor in the last bits", x.bits(113 * 588 - 3), 0);
        x.slip(113 * 588, 600);
        due("nor in bits that come", x.bits(113 * 588 + 5), 0);
    }

    /** Pressed and played before, of another and longer stream, with what that disc told beside. */
    private static CompactDisc pressedAgain() {
        CompactDisc x = new CompactDisc();
        x.fill(1000, 9);
        x.begin(77);
        x.entry(0, 1, 2, 0);
        x.press();
        x.noise(5, 50, 5);
        x.play(1, 1, 9);
        x.wipe();
        x.begin(0);
        x.plain();
        x.fill(40, 4);
        x.press();
        return x;
    }

    private static void nothingWasPlayed(CompactDisc x) {
        for (int what = 0; what < 8; what++) {
            due("told(" + what + ")", x.told(what), -1);
            due("q(0, " + what + ")", x.q(0, what), -1);
        }
        due("played(0)", x.played(0), -1);
        due("isSure(0)", x.isSure(0), false);
        due("heard(0, false)", x.heard(0, false), 65536);
        due("heard(0, true)", x.heard(0, true), 65536);
        due("inner(0)", x.inner(0), -1);
        due("outer(0)", x.outer(0), -1);
    }

    private static void framesAndLength() {
        edge(10, "0 without a disc");
        CompactDisc x = new CompactDisc();
        due("new", x.frames(), 0);
        x.fill(24, 1);
        due("fed", x.frames(), 0);
        edge(10, "How many frames were pressed");
        x.press();
        x.slip(0, -600);
        due("bits went", x.frames(), 112);
        x.slip(0, 600);
        x.slip(0, 600);
        due("bits came", x.frames(), 112);
        x.fill(24, 1);
        due("more is in the stream", x.frames(), 112);
        edge(11, "588 for each frame, if none came or went since");
        x.press();
        due("pressed", x.length(), 113 * 588);
        x.flip(0);
        x.scratch(5, 5);
        x.noise(5, 5, 5);
        due("spoiled", x.length(), 113 * 588);
        x.slip(0, 1);
        due("one came", x.length(), 113 * 588 + 1);
        x.slip(0, -2);
        due("two went", x.length(), 113 * 588 - 1);
    }

    private static void bits() {
        edge(12, "0s behind its end; 0 when there is no bit i");
        CompactDisc x = new CompactDisc();
        due("no disc", x.bits(0), 0);
        // Each length within a cell of 32 bits, the last 40 bits being 1.
        for (int more = 0; more < 34; more++) {
            x = DiscHand.blank(1);
            int end = x.slip(65856, more);
            for (int k = 1; k <= 40; k++) {
                x.flip(end - k);
            }
            due("all 32 of " + end, x.bits(end - 32), -1);
            due("and one before", x.bits(end - 33), -1);
            due("one behind the end", x.bits(end - 31), -2);
            due("half of them", x.bits(end - 16), 0xffff0000);
            due("the last one", x.bits(end - 1), LOW);
            due("none", x.bits(end), 0);
            due("the first of them", x.bits(end - 71), 1);
            due("before", x.bits(-1), 0);
            due("far before", x.bits(LOW), 0);
            due("far behind", x.bits(HIGH), 0);
            x.slip(end - 5, -5);
            due("fewer", x.bits(end - 6), LOW);
            x.slip(end - 5, 5);
            due("those that went do not come back", x.bits(end - 6), LOW);
        }
        x.flip(0);
        due("the first one highest", x.bits(0), LOW);
        x.flip(0);
        x.flip(31);
        due("the last one lowest", x.bits(0), 1);
        due("no bit -1 in spite of it", x.bits(-1), 0);
        due("nor -31", x.bits(-31), 0);
    }

    private static void word() {
        edge(13, "the word of the byte beside (k = 0), or of byte k - 1 (k = 1 .. 32)");
        CompactDisc x = null;
        for (int frame : new int[] {0, 1, 111}) {
            x = DiscHand.blank(1);
            for (int k = 0; k <= 32; k++) {
                int from = 588 * frame + 27 + 17 * k;
                x.flip(from);
                x.flip(from + 13);
                due("frame " + frame + ", k = " + k, x.word(frame, k), 8193);
                x.flip(from - 1);
                x.flip(from + 14);
            }
            due("joints do not count", x.word(frame, 5), 8193);
        }
        edge(13, "NONE when no such frame was pressed, or there is no such k");
        for (int frame : new int[] {-1, 112, 7304367, LOW, HIGH}) {
            due("frame " + frame, x.word(frame, 0), -1);
            due("frame " + frame, x.word(frame, 32), -1);
        }
        for (int k : new int[] {-1, 33, LOW, HIGH}) {
            due("k = " + k, x.word(0, k), -1);
            due("k = " + k, x.word(111, k), -1);
        }
        edge(13, "frame f from bit 588 f on; 0s behind the end");
        x.slip(0, 600);
        due("no frame was pressed there, though there are bits", x.word(112, 0), -1);
        x = DiscHand.blank(1);
        int from = 588 * 111 + 27 + 17 * 32;
        DiscHand.draw(x, from, 16383, 14);
        for (int left = 14; left >= 0; left--) {
            due(left + " bits of the last word", x.word(111, 32), 16383 >> (14 - left) << (14 - left));
            x.slip(from + left - (left > 0 ? 1 : 0), -600);
        }
        x.slip(588 * 111, -600);
        due("a frame without a bit", x.word(111, 0), 0);
        x.slip(588 * 110 + 40, -600);
        due("the one before it, cut", x.word(110, 1), 0);
    }

    private static void joint() {
        edge(14, "joint k (0 .. 33) of a disc frame");
        CompactDisc x = DiscHand.blank(1);
        for (int frame : new int[] {0, 1, 111}) {
            for (int k = 0; k <= 33; k++) {
                int from = 588 * frame + 24 + 17 * k;
                x.flip(from);
                x.flip(from + 2);
                due("frame " + frame + ", k = " + k, x.joint(frame, k), 5);
            }
        }
        edge(14, "NONE likewise");
        for (int frame : new int[] {-1, 112, 7304367, LOW, HIGH}) {
            due("frame " + frame, x.joint(frame, 0), -1);
            due("frame " + frame, x.joint(frame, 33), -1);
        }
        for (int k : new int[] {-1, 34, LOW, HIGH}) {
            due("k = " + k, x.joint(0, k), -1);
            due("k = " + k, x.joint(111, k), -1);
        }
        x.flip(65854);
        due("the disc's last three bits", x.joint(111, 33), 7);
        x.slip(65855, -1);
        due("one went", x.joint(111, 33), 6);
        x.slip(65854, -1);
        due("two went", x.joint(111, 33), 4);
        x.slip(65853, -1);
        due("three went", x.joint(111, 33), 0);
        x.slip(0, 600);
        due("no frame was pressed there, though there are bits", x.joint(112, 0), -1);
    }

    private static void balance() {
        edge(15, "0 for n = 0");
        CompactDisc x = new CompactDisc();
        due("no disc", x.balance(0), 0);
        x = DiscHand.blank(1);
        due("a disc", x.balance(0), 0);
        edge(15, "-1000000 when n is below 0 or there are not so many");
        due("no disc", new CompactDisc().balance(1), -1000000);
        due("all", x.balance(65856), 65856);
        for (int n : new int[] {-1, 65857, LOW, HIGH}) {
            due("n = " + n, x.balance(n), -1000000);
        }
        x.slip(0, 1);
        due("one came", x.balance(65857), 65857);
        x.slip(0, -2);
        due("two went", x.balance(65855), 65855);
        due("and no more", x.balance(65856), -1000000);
        edge(15, "a LEVEL is 1 before the first bit, and turns (1 to -1, -1 to 1) at each 1");
        x = DiscHand.blank(1);
        x.flip(0);
        for (int n : new int[] {1, 2, 31, 32, 33, 64, 65, 65856}) {
            due("behind a 1 and 0s, " + n, x.balance(n), -n);
        }
        x.flip(31);
        x.flip(32);
        int[][] want = {{31, -31}, {32, -30}, {33, -31}, {34, -32}, {64, -62}};
        for (int[] w : want) {
            due("over the end of a cell, " + w[0], x.balance(w[0]), w[1]);
        }
        x.noise(0, 1, 7);
        int level = 1;
        int sum = 0;
        for (int n = 0; n < 200; n++) {
            due("behind " + n + " bits of noise", x.balance(n), sum);
            level = x.bits(n) < 0 ? -level : level;
            sum += level;
        }
    }

    private static void run() {
        edge(16, "NONE when there is none");
        CompactDisc x = new CompactDisc();
        due("no disc, longest", x.run(true), -1);
        due("no disc, shortest", x.run(false), -1);
        x = DiscHand.blank(1);
        due("no 1, longest", x.run(true), -1);
        due("no 1, shortest", x.run(false), -1);
        x.flip(700);
        due("a single 1, longest", x.run(true), -1);
        due("a single 1, shortest", x.run(false), -1);
        edge(16, "RUNS are the 0s between two 1s that follow each other");
        x.flip(701);
        due("none between them, longest", x.run(true), 0);
        due("none between them, shortest", x.run(false), 0);
        x.flip(703);
        due("longest", x.run(true), 1);
        due("shortest", x.run(false), 0);
        x.flip(701);
        due("not over a 1", x.run(true), 2);
        due("of one run", x.run(false), 2);
        x.flip(0);
        due("from the first bit", x.run(true), 699);
        x.flip(65855);
        due("to the last bit", x.run(true), 65855 - 704);
        due("shortest", x.run(false), 2);
        x.flip(700);
        x.flip(703);
        due("the whole disc", x.run(false), 65854);
        edge(16, "as it is now");
        x.slip(1, 600);
        due("some came", x.run(true), 65854 + 600);
        x.slip(0, -1);
        due("its 1 went", x.run(true), -1);
    }

    private static void signs() {
        edge(17, "it stands at a place if all of them are on the disc from there on");
        CompactDisc x = new CompactDisc();
        due("no disc", x.signs(), 0);
        x = DiscHand.blank(1);
        due("no 1", x.signs(), 0);
        DiscHand.drawSign(x, 0);
        DiscHand.drawSign(x, 65856 - 24);
        due("first and last place", x.signs(), 2);
        edge(18, "The i-th of these places (from 0); NONE when there are not so many");
        due("0", x.signAt(0), 0);
        due("1", x.signAt(1), 65832);
        for (int i : new int[] {-1, 2, LOW, HIGH}) {
            due("i = " + i, x.signAt(i), -1);
        }
        due("no disc", new CompactDisc().signAt(0), -1);
        edge(17, "it stands at a place if all of them are on the disc from there on");
        x.slip(65855, -1);
        due("its last 0 is gone", x.signs(), 1);
        x.slip(65855, 1);
        due("and back", x.signs(), 2);
        x.slip(0, -1);
        due("its first 1 is gone", x.signs(), 1);
        due("the other moved", x.signAt(0), 65831);
        edge(17, "the 24 bits 100000000001000000000010");
        for (int k = 0; k < 24; k++) {
            x = DiscHand.blank(1);
            DiscHand.drawSign(x, 100);
            x.flip(100 + k);
            due("bit " + k + " turned", x.signs(), 0);
            x.flip(100 + k);
            x.flip(99);
            x.flip(124);
            due("the bits beside it are free", x.signs(), 1);
        }
        edge(17, "At how many places");
        x = DiscHand.blank(1);
        for (int k = 0; k < 5; k++) {
            x.flip(20 + 11 * k);
        }
        due("signs one over the other", x.signs(), 3);
        for (int k = 0; k < 3; k++) {
            due("place " + k, x.signAt(k), 20 + 11 * k);
        }
        for (int shift = 0; shift < 33; shift++) {
            due("every place of a cell", x.signAt(0), 20 + shift);
            x.slip(0, 1);
        }
    }

    private static void flip() {
        edge(19, "False when there is none");
        CompactDisc x = new CompactDisc();
        due("no disc", x.flip(0), false);
        x = DiscHand.blank(1);
        for (int i : new int[] {-1, 65856, LOW, HIGH}) {
            due("bit " + i, x.flip(i), false);
        }
        due("nothing was turned", x.balance(65856), 65856);
        for (int i : new int[] {0, 31, 32, 63, 65823, 65824, 65855}) {
            due("bit " + i, x.flip(i), true);
            due("is 1", x.bits(i) < 0, true);
            due("is the only one", x.run(true), -1);
            due("again", x.flip(i), true);
            due("is 0", x.bits(i), 0);
        }
        x.slip(65856, 1);
        due("a bit that came", x.flip(65856), true);
        x.slip(0, -1);
        due("a bit that went", x.flip(65856), false);
    }

    /** A disc all of whose bits are 1, as far as they matter: around the ends of some frames. */
    private static CompactDisc whiteEnds(int... frames) {
        CompactDisc x = DiscHand.blank(1);
        for (int f : frames) {
            x.flip(588 * f);
            x.flip(588 * f + 1);
            x.flip(588 * f - 1);
            x.flip(588 * f - 2);
        }
        return x;
    }

    private static void scratch() {
        edge(20, "frame f being the bits 588 f .. 588 f + 587");
        CompactDisc x = whiteEnds(3, 4, 6);
        due("one frame", x.scratch(3, 1), 588);
        due("before it", x.bits(588 * 3 - 2), 0b11 << 30);
        due("its first bits", x.bits(588 * 3), 0);
        due("its last bits, and the next frame's", x.bits(588 * 4 - 2), 0b0011 << 28);
        due("two frames", x.scratch(4, 2), 1176);
        due("behind them", x.bits(588 * 6 - 2), 0b0011 << 28);
        due("none of them", x.scratch(6, 0), 0);
        due("still there", x.bits(588 * 6), 0b11 << 30);
        edge(20, "as far as there are bits");
        due("600 from the first on", x.scratch(0, 600), 65856);
        due("600 from the last on", x.scratch(111, 600), 588);
        x.slip(65855, -1);
        due("one bit less", x.scratch(111, 1), 587);
        x.slip(65268, -586);
        due("one bit", x.scratch(111, 1), 1);
        edge(20, "NONE when there is no bit 588 * frame");
        x.slip(65268, -1);
        due("no bit", x.scratch(111, 1), -1);
        due("no bit, none wanted", x.scratch(111, 0), -1);
        due("the frame before", x.scratch(110, 1), 588);
        x.slip(65268, 589);
        due("a bit came", x.scratch(111, 2), 589);
        due("of no frame that was pressed, but there", x.scratch(112, 5), 1);
        // The wrap-around: 588 * 7304367, cut to 32 bits, is 500.
        for (int frame : new int[] {-1, 113, 7304367, 7304366, LOW, HIGH}) {
            due("frame " + frame, x.scratch(frame, 1), -1);
        }
        due("no disc", new CompactDisc().scratch(0, 0), -1);
        edge(20, "or many is not 0 .. 600");
        for (int many : new int[] {-1, 601, LOW, HIGH}) {
            due("many = " + many, x.scratch(0, many), -1);
        }
        x = DiscHand.pressed(11712, 1);
        due("all of the longest", x.scratch(0, 600), 352212);
        for (int k = 0; k < 13; k++) {
            x.slip(0, k < 12 ? 600 : 588);
        }
        due("600 frames, and bits behind them", x.scratch(12, 600), 352800);
        due("the last bits", x.scratch(612, 600), 144);
        due("behind", x.scratch(613, 600), -1);
    }

    private static void noise() {
        edge(21, "the bit is turned if z is below 0 then");
        // Behind the last four the first z is 0, -1, the greatest and the least.
        for (int seed : new int[] {0, 5, -1, LOW, HIGH, 634785765, 653637408, -1493846240, -1512697883}) {
            CompactDisc x = DiscHand.blank(1);
            long z = seed & 0xffffffffL;
            int turned = 0;
            int first = 0;
            for (int k = 0; k < 588; k++) {
                z = (z * 1664525L + 1013904223L) % 0x100000000L;
                int turn = z >= 0x80000000L ? 1 : 0;
                turned += turn;
                first = k < 32 ? 2 * first + turn : first;
            }
            due("seed " + seed, x.noise(2, 1, seed), turned);
            due("seed " + seed + ", its first bits", x.bits(1176), first);
            due("seed " + seed + ", the frame before", x.bits(1176 - 32), 0);
            due("seed " + seed + ", the next frame", x.bits(1764), 0);
            due("seed " + seed + ", again", x.noise(2, 1, seed), turned);
            due("seed " + seed + ", all 0 again", x.balance(65856), 65856);
        }
        edge(21, "as far as there are bits");
        CompactDisc x = DiscHand.blank(1);
        int all = x.noise(0, 600, 5);
        due("112 frames or 600", x.noise(0, 112, 5), all);
        due("all is back", x.balance(65856), 65856);
        due("none of them", x.noise(0, 0, 5), 0);
        due("seed 5 leaves the first bit, turns the second", x.noise(111, 1, 5) > 0 && x.bits(65268) >>> 30 == 1, true);
        x.scratch(111, 1);
        x.slip(65269, -587);
        due("a single bit", x.noise(111, 600, 5), 0);
        x.slip(65269, 1);
        due("two bits", x.noise(111, 600, 5), 1);
        due("nothing behind the end", x.bits(65270), 0);
        edge(21, "NONE as for scratch()");
        for (int frame : new int[] {-1, 112, 7304367, 7304366, LOW, HIGH}) {
            due("frame " + frame, x.noise(frame, 1, 5), -1);
        }
        for (int many : new int[] {-1, 601, LOW, HIGH}) {
            due("many = " + many, x.noise(0, many, 5), -1);
        }
        x.slip(65268, -2);
        due("no bit", x.noise(111, 0, 5), -1);
        due("no disc", new CompactDisc().noise(0, 0, 5), -1);
    }

    private static void slipComesAndGoes() {
        edge(22, "n bits 0 in front of bit i (i may be the length)");
        CompactDisc x = DiscHand.blank(1);
        x.flip(0);
        x.flip(65855);
        due("in front of all", x.slip(0, 1), 65857);
        due("a 0 came", x.bits(0), 1 << 30);
        due("at the end", x.slip(65857, 600), 66457);
        due("behind the last 1", x.bits(65856), LOW);
        due("a run over the whole", x.run(true), 65854);
        due("in front of the last 1", x.slip(65856, 2), 66459);
        due("it moved", x.bits(65858), LOW);
        due("and left its place", x.run(true), 65856);
        due("none", x.slip(5, 0), 66459);
        due("the most", x.slip(1, 600), 67059);
        due("the first 1 moved so far", x.bits(601), LOW);
        edge(22, "-n bits from bit i on go (as many as there are)");
        due("the most", x.slip(1, -600), 66459);
        due("back", x.bits(1), LOW);
        due("the first", x.slip(0, -1), 66458);
        due("the 1 is first", x.bits(0), LOW);
        due("the 1 goes", x.slip(0, -1), 66457);
        due("a single 1", x.run(true), -1);
        due("at the end, none", x.slip(66457, -600), 66457);
        due("one before the end, one", x.slip(66456, -600), 66456);
        due("600 before the end", x.slip(65856, -600), 65856);
        due("601 before the end", x.slip(65255, -600), 65256);
        due("the 1 is gone", x.balance(65256), 65256);
        edge(22, "How many bits the disc has then");
        x = DiscHand.blank(1);
        for (int k = 1; k <= 109; k++) {
            x.slip(0, -600);
        }
        due("456 left", x.length(), 456);
        due("none left", x.slip(0, -457), 0);
        due("none more", x.slip(0, -600), 0);
        due("there is a disc still", x.slip(0, 0), 0);
        due("but no bit", x.flip(0) || x.scratch(0, 0) != -1 || x.bits(0) != 0, false);
        due("its frames were pressed", x.word(111, 32), 0);
        due("behind its end", x.slip(1, 1), -1);
        due("some come", x.slip(0, 600), 600);
        due("and are 0", x.balance(600), 600);
    }

    private static void slipRefused() {
        edge(22, "there is no disc, i is not 0 .. its length, n not -600 .. 600");
        due("no disc", new CompactDisc().slip(0, 0), -1);
        CompactDisc x = DiscHand.blank(1);
        for (int i : new int[] {-1, 65857, LOW, HIGH}) {
            for (int n : new int[] {-600, 0, 600}) {
                due("i = " + i + ", n = " + n, x.slip(i, n), -1);
            }
        }
        for (int n : new int[] {-601, 601, LOW, HIGH}) {
            due("n = " + n, x.slip(0, n), -1);
            due("at the end, n = " + n, x.slip(65856, n), -1);
        }
        due("nothing came or went", x.length(), 65856);
        due("-600", x.slip(0, -600), 65256);
        due("600", x.slip(65256, 600), 65856);
        edge(22, "or it would have more than 360000");
        x = DiscHand.pressed(11712, 1);
        x.scratch(0, 600);
        x.flip(352211);
        for (int k = 1; k <= 12; k++) {
            due("more", x.slip(0, 600), 352212 + 600 * k);
        }
        due("600 more are too many", x.slip(0, 600), -1);
        due("589 more are too many", x.slip(0, 589), -1);
        due("588 more", x.slip(359412, 588), 360000);
        due("one more", x.slip(360000, 1), -1);
        due("none more", x.slip(0, 0), 360000);
        due("the last 1", x.balance(360000), 359411 - 589);
        due("bits of the full disc", x.flip(359999), true);
        due("its last", x.bits(359999), LOW);
        due("behind it", x.bits(360000), 0);
        due("its last two 1s", x.run(true), 359999 - 359411 - 1);
        due("one goes", x.slip(0, -1), 359999);
        due("one comes", x.slip(0, 1), 360000);
        due("its last again", x.bits(359999), LOW);
        due("it can be played", x.play(2, 2, 20), 11712);
        due("frames found", x.told(6), 613);
        due("no word in them, nor behind the end", x.told(0), 613 * 32);
    }

    private static void play() {
        edge(23, "NONE: there is no disc, a reach is not 0 .. 2, or window not 0 .. 20");
        due("no disc", new CompactDisc().play(0, 0, 0), -1);
        CompactDisc x = DiscHand.pressed(30, 1);
        for (int wrong : new int[] {-1, 3, LOW, HIGH}) {
            due("inner " + wrong, x.play(wrong, 2, 2), -1);
            due("outer " + wrong, x.play(2, wrong, 2), -1);
        }
        for (int wrong : new int[] {-1, 21, LOW, HIGH}) {
            due("window " + wrong, x.play(2, 2, wrong), -1);
        }
        nothingWasPlayed(x);
        for (int reach = 0; reach <= 2; reach++) {
            due("inner " + reach, x.play(reach, 0, 0), 0);
            due("outer " + reach, x.play(0, reach, 20), 0);
        }
        edge(23, "how many bytes of the stream that was pressed (filled up to whole frames) are not sure");
        for (int[] size : new int[][] {{1, 24}, {24, 24}, {25, 48}}) {
            x = DiscHand.pressed(size[0], 1);
            due("none of " + size[0], x.play(0, 0, 0), 0);
            x.scratch(0, 600);
            x.feed(1, 1);
            due("all of " + size[0], x.play(2, 2, 0), size[1]);
            due("told", x.told(3), size[1]);
        }
        edge(23, "there is no disc");
        x.wipe();
        due("an empty stream does not matter", x.play(2, 2, 0), 48);
        x.press();
        due("it was pressed: none", x.play(2, 2, 0), -1);
    }

    private static void played() {
        CompactDisc x = new CompactDisc();
        x.feed(0x80007fff0000ffffL, 8);
        x.fill(18, 3);
        x.press();
        edge(24, "NONE when there is none, or nothing was played");
        due("pressed only", x.played(0), -1);
        edge(25, "false when there is none");
        due("pressed only", x.isSure(0), false);
        edge(26, "SILENT when there is none, or nothing was played");
        due("pressed only", x.heard(0, false), 65536);
        x.play(0, 0, 0);
        for (int i : new int[] {-1, 48, LOW, HIGH}) {
            edge(24, "NONE when there is none, or nothing was played");
            due("byte " + i, x.played(i), -1);
            edge(25, "false when there is none");
            due("byte " + i, x.isSure(i), false);
        }
        edge(24, "Byte i that was played, sure or not");
        due("first", x.played(0), 128);
        due("of the filled up frame", x.played(26), 0);
        due("last", x.played(47), 0);
        edge(25, "Whether byte i that was played is sure");
        due("first", x.isSure(0), true);
        due("last", x.isSure(47), true);
        edge(26, "SILENT when there is none, or nothing was played");
        for (int i : new int[] {-1, 12, LOW, HIGH}) {
            due("left " + i, x.heard(i, false), 65536);
            due("right " + i, x.heard(i, true), 65536);
        }
        due("last left", x.heard(11, false), 0);
        due("last right", x.heard(11, true), 0);
        CompactDisc full = DiscHand.pressed(11712, 2);
        full.play(0, 0, 0);
        for (int i : new int[] {2926, 2927}) {
            int left = full.streamAt(4 * i) << 8 | full.streamAt(4 * i + 1);
            int right = full.streamAt(4 * i + 2) << 8 | full.streamAt(4 * i + 3);
            due("left " + i + " of the longest", full.heard(i, false), (short) left);
            due("right " + i + " of the longest", full.heard(i, true), (short) right);
        }
        due("behind it", full.heard(2928, false), 65536);
        due("its last byte", full.played(11711), full.streamAt(11711));
        due("behind that", full.played(11712), -1);
        edge(26, "16 bits with a sign");
        due("least", x.heard(0, false), -32768);
        due("most", x.heard(0, true), 32767);
        due("zero", x.heard(1, false), 0);
        due("-1", x.heard(1, true), -1);
        x.feed(1, 1);
        x.scratch(0, 600);
        edge(24, "Byte i that was played, sure or not");
        due("as it was played, though the disc is spoiled since", x.played(0), 128);
        x.play(0, 0, 0);
        due("not sure", x.played(0), 0);
        edge(25, "Whether byte i that was played is sure");
        due("not sure", x.isSure(0), false);
        edge(26, "any other what was heard before");
        due("0 at first", x.heard(0, false), 0);
        due("to the last", x.heard(11, true), 0);
    }

    private static void fates() {
        edge(27, "NONE when there is none, or nothing was played");
        CompactDisc x = DiscHand.pressed(30, 1);
        due("inner, nothing was played", x.inner(0), -1);
        edge(28, "The same of outer word v");
        due("outer, nothing was played", x.outer(0), -1);
        x.play(1, 1, 0);
        for (int w : new int[] {-1, 113, LOW, HIGH}) {
            edge(27, "NONE when there is none, or nothing was played");
            due("inner word " + w, x.inner(w), -1);
            edge(28, "The same of outer word v");
            due("outer word " + w, x.outer(w), -1);
        }
        edge(27, "0: it was right as it came, without marks");
        due("the first inner word", x.inner(0), 0);
        due("the last but one", x.inner(111), 0);
        edge(28, "The same of outer word v");
        due("the first outer word", x.outer(0), 0);
        // Outer word v needs inner words up to v + 108, of which 112 lacks half and 113 is none.
        due("the last without a mark", x.outer(3), 0);
        due("one mark", x.outer(4), 1);
        edge(27, "-2 if it failed");
        due("the last one lacks its even places", x.inner(112), -2);
        edge(28, "The same of outer word v");
        due("four marks", x.outer(19), 4);
        due("five marks", x.outer(20), -2);
        due("the last one", x.outer(112), -2);
        x.slip(x.length(), 1);
        x.play(1, 1, 0);
        edge(27, "NONE when there is none");
        due("one frame more was found", x.inner(113), -2);
        due("and no other", x.inner(114), -1);
        due("the one before", x.inner(112), -2);
    }

    private static void told() {
        edge(29, "NONE for another what, or when nothing was played");
        CompactDisc x = DiscHand.pressed(30, 1);
        due("nothing was played", x.told(0), -1);
        x.play(0, 0, 0);
        int[] want = {0, 1, 93, 0, 0, 28, 113, 2};
        for (int what = 0; what < 8; what++) {
            due("what " + what, x.told(what), want[what]);
        }
        for (int what : new int[] {-1, 8, LOW, HIGH}) {
            due("what " + what, x.told(what), -1);
        }
        edge(29, "0 how many words that were read (besides those of bytes beside) were none of the 256");
        for (int f = 0; f < 113; f++) {
            x.flip(588 * f + 27);
            x.flip(588 * f + 28);
        }
        x.play(0, 0, 0);
        due("words beside", x.told(0), 0);
        DiscHand.unspell(x, 7, 31);
        DiscHand.unspell(x, 7, 0);
        x.play(0, 0, 0);
        due("the first and the last", x.told(0), 2);
        x = DiscHand.pressed(30, 1);
        x.slip(113 * 588 - 3, -3);
        x.play(0, 0, 0);
        due("the last joint went", x.told(0), 0);
        x.slip(113 * 588 - 17, -14);
        x.play(0, 0, 0);
        due("the last word went", x.told(0), 1);
        x.slip(112 * 588 + 1, -600);
        x.play(0, 0, 0);
        due("a single bit of the last frame", x.told(0), 32);
        due("which was found", x.told(6), 113);
        x.slip(112 * 588, -1);
        x.play(0, 0, 0);
        due("no bit of it", x.told(0), 0);
        due("which was not found", x.told(6), 112);
    }

    private static void q() {
        edge(30, "NONE for others, or when there is no such section, or nothing was played");
        CompactDisc x = new CompactDisc();
        x.fill(24 * 85, 1);
        x.entry(0, 3, 4, 0);
        x.entry(1, 5, 6, 7);
        due("196 frames", x.press(), 196);
        due("nothing was played", x.q(0, 0), -1);
        x.play(0, 0, 0);
        int[][] want = {{1, 3, 4, 0, 1, 0, 96}, {1, 5, 6, 7, 0, 1, 0}};
        for (int s = 0; s < 2; s++) {
            for (int what = 0; what < 7; what++) {
                due("q(" + s + ", " + what + ")", x.q(s, what), want[s][what]);
            }
        }
        for (int other : new int[] {-1, 7, LOW, HIGH}) {
            due("what " + other, x.q(0, other), -1);
        }
        for (int other : new int[] {-1, 2, LOW, HIGH}) {
            due("section " + other, x.q(other, 0), -1);
            due("section " + other, x.q(other, 1), -1);
        }
        edge(30, "98 frames were found from that one on");
        x.slip(195 * 588 + 41, -600);
        x.play(0, 0, 0);
        due("the last frame has its word beside", x.q(1, 0), 1);
        // The words of 0 and 64 both end with a 0, as is read behind the end.
        x.slip(195 * 588 + 40, -600);
        x.play(0, 0, 0);
        due("it lacks the word's last bit", x.q(1, 0), 1);
        x.slip(195 * 588 + 1, -600);
        x.play(0, 0, 0);
        due("97 and one without words", x.q(1, 0), 0);
        due("the section is found", x.told(7), 2);
        x.slip(195 * 588, -1);
        x.play(0, 0, 0);
        due("97", x.q(1, 0), 0);
        due("of one that is not sound", x.q(1, 1), -1);
        for (int what = 2; what < 7; what++) {
            due("nor " + what, x.q(1, what), -1);
        }
        due("the other is sound", x.q(0, 0), 1);
        edge(30, "the next one's being 00000000010010, begins one");
        sectionMarks();
    }

    private static void sectionMarks() {
        for (int bit = 0; bit < 14; bit++) {
            CompactDisc x = DiscHand.pressed(1, 1);
            x.flip(588 * 98 + 27 + bit);
            x.play(0, 0, 0);
            due("first mark, bit " + bit, x.told(7), 1);
            x.flip(588 * 98 + 27 + bit);
            x.flip(588 * 99 + 27 + bit);
            x.play(0, 0, 0);
            due("second mark, bit " + bit, x.told(7), 1);
            due("no second section", x.q(1, 0), -1);
        }
        CompactDisc x = DiscHand.pressed(1, 1);
        x.play(0, 0, 0);
        due("two sections", x.told(7), 2);
        for (int k = 0; k < 13; k++) {
            x.slip(588 * 99, -600);
        }
        x.play(0, 0, 0);
        due("99 frames", x.told(6), 99);
        due("the second section's next frame is no more", x.told(7), 1);
        x = DiscHand.blank(1);
        for (int k = 0; k < 3; k++) {
            DiscHand.draw(x, 588 * (20 + 2 * k) + 27, 0b00100000000001, 14);
            DiscHand.draw(x, 588 * (21 + 2 * k) + 27, 0b00000000010010, 14);
        }
        DiscHand.draw(x, 588 * 111 + 27, 0b00100000000001, 14);
        x.play(0, 0, 0);
        due("three close together, and one without a next", x.told(7), 3);
        due("the third", x.q(2, 0), 0);
        due("no fourth", x.q(3, 0), -1);
        DiscHand.draw(x, 588 * 110 + 27, 0b00100000000001, 14);
        DiscHand.draw(x, 588 * 111 + 27, 0b00100000000001 ^ 0b00000000010010, 14);
        x.play(0, 0, 0);
        due("on the last two frames", x.told(7), 4);
        due("the fourth", x.q(3, 0), 0);
        soundness();
    }

    /** A disc whose section 0 tells these 80 bits, with right check bits but for those that are turned. */
    private static CompactDisc telling(String bits80, int turned) {
        CompactDisc x = DiscHand.pressed(1, 1);
        int zero = x.spell(0);
        String bits = bits80 + PlainModel.checkBits(bits80);
        for (int k = 0; k < 96; k++) {
            // The words of 0 and 64 differ in a single bit.
            boolean one = bits.charAt(k) == '1' ^ k == turned;
            if (one == (x.word(2 + k, 0) == zero)) {
                x.flip(588 * (2 + k) + 27 + 11);
            }
        }
        x.play(0, 0, 0);
        return x;
    }

    private static String figures(int high, int low) {
        return PlainModel.binary(high, 4) + PlainModel.binary(low, 4);
    }

    /** Track, index, time and place, each 0 but for one of these eight. */
    private static String allBut(int k, String figures) {
        StringBuilder bits = new StringBuilder("00000001");
        for (int n = 0; n < 9; n++) {
            int part = n < 5 ? n : n - 1;
            bits.append(n != 5 && part == k ? figures : "00000000");
        }
        return bits.toString();
    }

    private static void soundness() {
        edge(30, "the four bits behind CONTROL are 0001");
        for (int mode = 0; mode < 16; mode++) {
            String bits = "1111" + PlainModel.binary(mode, 4) + "0".repeat(72);
            CompactDisc x = telling(bits, -1);
            due("mode " + mode, x.q(0, 0), mode == 1 ? 1 : 0);
            due("control with mode " + mode, x.q(0, 1), mode == 1 ? 15 : -1);
        }
        edge(30, "its check bits are right");
        for (int k = 0; k < 96; k++) {
            due("bit " + k + " turned", telling(allBut(0, figures(1, 2)), k).q(0, 0), 0);
        }
        edge(30, "all figures are 0 .. 9, the seconds below 60, the hundredths below 75");
        for (int k = 0; k < 8; k++) {
            int below = k == 3 || k == 6 ? 60 : k == 4 || k == 7 ? 75 : 100;
            for (int n : new int[] {0, 9, 10, 59, 60, 61, 69, 70, 74, 75, 76, 79, 80, 90, 99}) {
                CompactDisc x = telling(allBut(k, figures(n / 10, n % 10)), -1);
                due(n + " as number " + k, x.q(0, 0), n < below ? 1 : 0);
                int unit = k < 2 || k == 4 || k == 7 ? 1 : k == 3 || k == 6 ? 75 : 4500;
                int what = k == 0 ? 2 : k == 1 ? 3 : k < 5 ? 4 : 5;
                due(n + " as number " + k + ", told", x.q(0, what), n < below ? n * unit : -1);
            }
            for (int[] bad : new int[][] {{0, 10}, {0, 15}, {10, 0}, {15, 0}, {8, 10}, {2, 11}, {12, 9}}) {
                due("no figures " + k, telling(allBut(k, figures(bad[0], bad[1])), -1).q(0, 0), 0);
            }
        }
        edge(30, "the words beside of its frames 2 .. 97 are words of bytes");
        for (int r : new int[] {0, 1, 2, 3, 50, 96, 97, 98, 99}) {
            CompactDisc x = DiscHand.pressed(1, 1);
            // Two 1s side by side are in no word; of the section's marks only the joint is spoiled.
            x.flip(588 * r + 27 + (r < 2 ? -1 : 0));
            x.play(0, 0, 0);
            due("frame " + r, x.q(0, 0), r >= 2 && r <= 97 ? 0 : 1);
        }
        edge(30, "6 in how many of the 96 bytes beside the bit 128 is 1");
        CompactDisc x = DiscHand.pressed(1, 1);
        int told = 0;
        for (int r : new int[] {2, 3, 50, 96, 97}) {
            // The words of 0 and 128, and those of 64 and 192, are other ones.
            int b = x.read(x.word(r, 0));
            DiscHand.draw(x, 588 * r + 27, x.spell(b) ^ x.spell(b + 128), 14);
            x.play(0, 0, 0);
            told++;
            due("frame " + r, x.q(0, 6), told);
            due("sound still", x.q(0, 0), 1);
        }
    }

    private static void burst() {
        edge(31, "NONE: many is not 1 .. 200");
        CompactDisc x = new CompactDisc();
        for (int many : new int[] {0, -1, 201, LOW, HIGH}) {
            due("many = " + many, x.burst(many), -1);
        }
        edge(31, "The greatest number of places of one outer word");
        for (int many = 1; many <= 200; many++) {
            // From frame 1 on: inner words 0, 4, 8, .. lie on the frames 0 and 1, 4 and 5, ..
            int met = 0;
            for (int i = 0; i < 28; i++) {
                met += 4 * i <= many && 4 * i + 1 >= 1 ? 1 : 0;
            }
            due("many = " + many, x.burst(many), met);
        }
        due("the last with fewer than all", x.burst(107), 27);
        due("the first with all", x.burst(108), 28);
    }

    private static void words() {
        edge(32, "NONE when it is none");
        CompactDisc x = new CompactDisc();
        for (int b : new int[] {-1, 256, LOW, HIGH}) {
            due("byte " + b, x.spell(b), -1);
        }
        String[] table = PlainModel.TABLE.trim().split(" +");
        for (int b = 0; b < 256; b++) {
            due("byte " + b, x.spell(b), Integer.parseInt(table[b]));
        }
        x = new CompactDisc();
        edge(33, "NONE when there is none");
        for (int b = 0; b < 256; b++) {
            due("word " + table[b], x.read(Integer.parseInt(table[b])), b);
        }
        for (int word : new int[] {-1, 0, 1, 31, 9363, 16383, 16384, 16384 + 4640, 4640 - 16384, 1 << 31 | 4640, 2049, 18,
            LOW, HIGH}) {
            due("word " + word, x.read(word), -1);
        }
        due("the least", x.read(32), 32);
        due("the greatest", x.read(9362), 242);
    }

    private static void bench() {
        edge(34, "NONE: i is not 0 .. 31, or b no byte");
        CompactDisc x = new CompactDisc();
        for (int i : new int[] {-1, 32, LOW, HIGH}) {
            due("place " + i, x.put(i, 1), -1);
        }
        for (int b : new int[] {-1, 256, LOW, HIGH}) {
            due("byte " + b, x.put(0, b), -1);
            due("byte " + b + " at the last place", x.put(31, b), -1);
        }
        for (int i : new int[] {0, 31}) {
            due("was 0", x.put(i, 255), 0);
            due("was 255", x.put(i, 0), 255);
            due("was 0 again", x.put(i, 128), 0);
        }
        edge(34, "and is not marked then");
        x.mark(31, true);
        x.put(31, 256);
        due("a refused one leaves the mark", x.mark(31, true), true);
        x.put(31, 128);
        due("the same byte, but not marked", x.mark(31, true), false);
        x.put(30, 1);
        due("the neighbour keeps its mark", x.mark(31, false), true);

        edge(35, "False, too, when i is not 0 .. 31");
        for (int i : new int[] {-1, 32, 63, LOW, HIGH}) {
            due("place " + i, x.mark(i, true), false);
            due("place " + i + " again", x.mark(i, true), false);
        }
        for (int i = 0; i < 32; i++) {
            due("no place was marked by them", x.mark(i, false), false);
        }
        edge(35, "Place i of the bench is marked (and keeps its byte), or is not: whether it was");
        for (int i : new int[] {0, 31}) {
            int b = x.at(i);
            due("was not", x.mark(i, true), false);
            due("was", x.mark(i, true), true);
            due("was still", x.mark(i, false), true);
            due("was no more", x.mark(i, false), false);
            due("its byte", x.at(i), b);
        }
        edge(36, "NONE when there is none");
        for (int i : new int[] {-1, 32, LOW, HIGH}) {
            due("place " + i, x.at(i), -1);
        }
        due("first", x.at(0), 128);
        due("last", x.at(31), 128);
    }

    private static CompactDisc filledBench() {
        CompactDisc x = new CompactDisc();
        for (int i = 0; i < 32; i++) {
            x.put(i, 255 - 7 * i);
            x.mark(i, true);
        }
        return x;
    }

    private static void seal() {
        for (boolean inner : new boolean[] {true, false}) {
            int first = inner ? 28 : 12;
            int size = inner ? 32 : 28;
            edge(37, "of the inner code all its 32 places, of the outer one its first 28");
            CompactDisc x = filledBench();
            x.seal(inner);
            for (int i = 0; i < 32; i++) {
                if (i < first || i >= first + 4) {
                    due("place " + i + " stays", x.at(i), 255 - 7 * i);
                }
            }
            for (int j = 0; j < 4; j++) {
                due("sum " + j, x.syndrome(inner, j), 0);
            }
            edge(37, "no place of that word is marked then");
            for (int i = 0; i < 32; i++) {
                due("place " + i, x.mark(i, false), i >= size);
            }
            edge(37, "become right by its other places");
            int[] checks = new int[4];
            for (int k = 0; k < 4; k++) {
                checks[k] = x.at(first + k);
                x.put(first + k, 0);
            }
            x.seal(inner);
            for (int k = 0; k < 4; k++) {
                due("check " + k + ", whatever it was", x.at(first + k), checks[k]);
            }
            x = new CompactDisc();
            for (int k = 0; k < 4; k++) {
                x.put(first + k, 255);
            }
            x.seal(inner);
            for (int k = 0; k < 4; k++) {
                due("of a word of 0s", x.at(first + k), 0);
            }
        }
    }

    private static void syndrome() {
        edge(38, "NONE: j is not 0 .. 3");
        CompactDisc x = filledBench();
        for (int j : new int[] {-1, 4, LOW, HIGH}) {
            due("inner " + j, x.syndrome(true, j), -1);
            due("outer " + j, x.syndrome(false, j), -1);
        }
        edge(38, "The sum of v(i) * g^(j * (n - 1 - i)) over the places of that word");
        for (int i : new int[] {0, 11, 12, 15, 16, 27, 28, 31}) {
            x = new CompactDisc();
            x.put(i, 255);
            for (int j = 0; j < 4; j++) {
                due("inner, place " + i + ", " + j, x.syndrome(true, j), PlainModel.times(255, PlainModel.power(j * (31 - i))));
                int outer = i < 28 ? PlainModel.times(255, PlainModel.power(j * (27 - i))) : 0;
                due("outer, place " + i + ", " + j, x.syndrome(false, j), outer);
            }
        }
        // 128 times 2 is 256, the rest of which is 29; 127 times 2 has no rest.
        x = new CompactDisc();
        x.put(30, 128);
        due("over the end", x.syndrome(true, 1), 29);
        x.put(30, 127);
        due("up to the end", x.syndrome(true, 1), 254);
        x.put(31, 254);
        due("the same twice", x.syndrome(true, 1), 0);
    }

    private static void mend() {
        for (boolean inner : new boolean[] {true, false}) {
            int size = inner ? 32 : 28;
            edge(39, "NONE: reach is not 0 .. 2");
            for (int reach : new int[] {-1, 3, LOW, HIGH}) {
                CompactDisc x = new CompactDisc();
                x.put(3, 1);
                x.mark(5, true);
                due("reach " + reach, x.mend(inner, reach), -1);
                due("not mended", x.at(3), 1);
                due("marked as before", x.mark(5, false), true);
            }
            edge(39, "none is marked then");
            CompactDisc x = new CompactDisc();
            x.mark(0, true);
            x.mark(size - 1, true);
            due("marked, but right", x.mend(inner, 0), 2);
            due("not the first", x.mark(0, false), false);
            due("nor the last", x.mark(size - 1, false), false);
            due("a right word without marks", x.mend(inner, 0), 0);
            edge(39, "-2 if it fails (marks stay)");
            x.put(9, 77);
            due("a wrong place, reach 0", x.mend(inner, 0), -2);
            due("stays", x.at(9), 77);
            x.mark(1, true);
            x.mark(2, true);
            x.mark(3, true);
            due("three marks besides", x.mend(inner, 2), -2);
            for (int i = 1; i < 4; i++) {
                due("mark " + i + " stays", x.mark(i, true), true);
            }
            due("stays still", x.at(9), 77);
            edge(39, "If m is above 4, it FAILS");
            x.mark(9, true);
            x.mark(size - 1, true);
            due("five marks", x.mend(inner, 2), -2);
            x.mark(1, false);
            due("four marks", x.mend(inner, 2), 4);
            due("mended", x.at(9), 0);
            marksBehindTheWord(inner);
            errorsAtTheEnds(inner, size);
        }
    }

    /** Places 28 .. 31 of the bench belong to the inner word alone. */
    private static void marksBehindTheWord(boolean inner) {
        edge(39, "of the outer one its first 28");
        CompactDisc x = new CompactDisc();
        for (int i = 28; i < 32; i++) {
            x.put(i, 9);
            x.mark(i, true);
        }
        x.mark(0, true);
        due("marks", x.mend(inner, 0), inner ? -2 : 1);
        x.mark(0, false);
        due("four marks", x.mend(inner, 0), inner ? 4 : 0);
        for (int i = 28; i < 32; i++) {
            due("byte " + i, x.at(i), inner ? 0 : 9);
            due("mark " + i, x.mark(i, false), !inner);
        }
    }

    private static void errorsAtTheEnds(boolean inner, int size) {
        edge(39, "r being at most the reach, and m + 2 r at most 4");
        for (int reach = 0; reach <= 2; reach++) {
            CompactDisc x = new CompactDisc();
            x.put(0, 255);
            due("the first place, reach " + reach, x.mend(inner, reach), reach >= 1 ? 1 : -2);
            x.put(0, 0);
            x.put(size - 1, 255);
            due("the last place, reach " + reach, x.mend(inner, reach), reach >= 1 ? 1 : -2);
            x.put(size - 1, 1);
            x.put(0, 1);
            due("both, reach " + reach, x.mend(inner, reach), reach >= 2 ? 2 : -2);
            due("the first byte", x.at(0), reach >= 2 ? 0 : 1);
            x.put(0, 1);
            x.put(size - 1, 1);
            x.mark(1, true);
            due("both and a mark, reach " + reach, x.mend(inner, reach), -2);
            x.mark(0, true);
            due("one of them marked, reach " + reach, x.mend(inner, reach), reach >= 1 ? 3 : -2);
            due("marks", x.mark(1, false), reach < 1);
        }
    }
}
