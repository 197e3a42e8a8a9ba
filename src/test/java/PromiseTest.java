/** The promises one by one: ordinary inputs, the edges that the document names, and wrong inputs. */
public final class PromiseTest {
    private static final Tally TALLY = new Tally();
    private static String promise = "";

    private static void due(String what, long got, long want) {
        TALLY.due(promise + ": " + what, got, want);
    }

    private static void due(String what, boolean got, boolean want) {
        TALLY.due(promise + ": " + what, got, want);
    }

    private static CompactDisc pressed(int bytes, int seed) {
        CompactDisc x = new CompactDisc();
        x.fill(bytes, seed);
        x.press();
        return x;
    }

    public static void main(String[] args) {
        newObject();
        streamPromises();
        besidePromises();
        discPromises();
        spoilPromises();
        playPromises();
        framesAreFound();
        labelPromises();
        burstAndWords();
        benchPromises();
        TALLY.end();
    }

    private static void newObject() {
        promise = "1 new object";
        CompactDisc x = new CompactDisc();
        due("NONE", CompactDisc.NONE, -1);
        due("SILENT", CompactDisc.SILENT, 65536);
        due("streamAt(0)", x.streamAt(0), -1);
        due("frames()", x.frames(), 0);
        due("length()", x.length(), 0);
        due("told(0)", x.told(0), -1);
        due("play(2, 2, 0)", x.play(2, 2, 0), -1);
        for (int i = 0; i < 32; i++) {
            due("at", x.at(i), 0);
            due("mark", x.mark(i, false), false);
        }
        due("plain()", x.plain(), 0);
        x.feed(1, 1);
        x.press();
        x.play(0, 0, 0);
        due("begin is 0", x.q(0, 5), 0);
    }

    private static void streamPromises() {
        promise = "2 feed";
        CompactDisc x = new CompactDisc();
        due("eight bytes", x.feed(0x0102030405060708L, 8), 8);
        due("two lowest of many", x.feed(0x11223344L, 2), 10);
        due("of a negative one", x.feed(-1L, 1), 11);
        int[] want = {1, 2, 3, 4, 5, 6, 7, 8, 0x33, 0x44, 255};
        for (int i = 0; i < want.length; i++) {
            due("byte " + i, x.streamAt(i), want[i]);
        }
        for (int n : new int[] {0, 9, -1, Integer.MIN_VALUE, Integer.MAX_VALUE}) {
            due("n = " + n, x.feed(1, n), -1);
        }
        x.fill(11705 - 11, 1);
        due("one too many", x.feed(0x0102030405060708L, 8), -1);
        due("nothing came", x.streamAt(11705), -1);
        due("just so many", x.feed(0x01020304050607L, 7), 11712);
        due("last one", x.streamAt(11711), 7);
        due("full", x.feed(0, 1), -1);

        promise = "3 fill";
        x = new CompactDisc();
        due("four", x.fill(4, 1), 4);
        due("none", x.fill(0, 1), 4);
        due("four more", x.fill(4, -1), 8);
        int[] filled = {60, 94, 129, 180, 60, 48, 34, 161};
        for (int i = 0; i < filled.length; i++) {
            due("byte " + i, x.streamAt(i), filled[i]);
        }
        due("below 0", x.fill(-1, 1), -1);
        due("far below", x.fill(Integer.MIN_VALUE, 1), -1);
        due("too many", x.fill(11705, 1), -1);
        due("far too many", x.fill(Integer.MAX_VALUE, 1), -1);
        due("just so many", x.fill(11704, 1), 11712);
        due("none again", x.fill(0, 1), 11712);

        promise = "4 wipe";
        due("had", x.wipe(), 11712);
        due("had none", x.wipe(), 0);
        due("is empty", x.streamAt(0), -1);
        due("room again", x.fill(11712, 1), 11712);
        x.press();
        x.wipe();
        due("the disc stays", x.frames(), 599);

        promise = "5 streamAt";
        x = new CompactDisc();
        x.feed(0x80ffL, 2);
        due("first", x.streamAt(0), 128);
        due("second", x.streamAt(1), 255);
        due("behind", x.streamAt(2), -1);
        due("before", x.streamAt(-1), -1);
        due("far", x.streamAt(Integer.MAX_VALUE), -1);
    }

    private static void besidePromises() {
        promise = "6 begin";
        CompactDisc x = new CompactDisc();
        x.fill(24, 1);
        due("0", x.begin(0), true);
        due("most", x.begin(400000), true);
        due("too far", x.begin(400001), false);
        due("below", x.begin(-1), false);
        x.press();
        due("later than the press", x.begin(7), true);
        x.play(0, 0, 0);
        due("place", x.q(0, 5), 400000);
        for (int section : new int[] {7, 74, 75, 4499, 4500, 8999, 9000, 359999, 360000, 399999}) {
            x.begin(section);
            x.press();
            x.play(0, 0, 0);
            due("new place", x.q(0, 5), section);
        }

        promise = "7 entry";
        x = new CompactDisc();
        int[][] wrong = {{-1, 0, 1, 0}, {10, 0, 1, 0}, {0, -1, 1, 0}, {0, 16, 1, 0}, {0, 0, 0, 0}, {0, 0, 100, 0},
            {0, 0, 1, -1}, {0, 0, 1, 100}};
        for (int[] e : wrong) {
            due("wrong", x.entry(e[0], e[1], e[2], e[3]), -1);
        }
        due("least", x.entry(0, 0, 1, 0), 1);
        due("most", x.entry(9, 15, 99, 99), 2);
        for (int k = 3; k <= 20; k++) {
            due("another", x.entry(1, 1, 1, 1), k);
        }
        due("a 21st", x.entry(1, 1, 1, 1), -1);

        promise = "8 plain";
        due("had", x.plain(), 20);
        due("had none", x.plain(), 0);
        due("room again", x.entry(2, 3, 4, 5), 1);
        x.plain();
        x.fill(24 * 190, 3);
        x.press();
        x.play(0, 0, 0);
        due("track without entries", x.q(2, 2), 1);
        entriesHold();
    }

    /** Three whole sections of a disc with 301 frames, and one of seven. */
    private static void entriesHold() {
        promise = "7 entry";
        CompactDisc x = new CompactDisc();
        x.fill(24 * 300, 3);
        x.entry(2, 9, 12, 34);
        x.entry(1, 5, 12, 0);
        x.entry(2, 2, 12, 7);
        due("frames", x.press(), 411);
        x.entry(0, 1, 2, 3);
        x.play(0, 0, 0);
        due("sections", x.told(7), 5);
        int[][] want = {{0, 1, 1, 0, 0, 0}, {5, 12, 0, 1, 1, 96}, {2, 12, 7, 0, 2, 0}, {2, 12, 7, 1, 3, 0}};
        for (int s = 0; s < 4; s++) {
            for (int what = 1; what <= 6; what++) {
                due("section " + s + ", " + what, x.q(s, what), want[s][what - 1]);
            }
        }
        // A pause to the end of the disc, its last section being cut short; and one that another track ends.
        x.plain();
        x.entry(1, 0, 8, 0);
        x.entry(2, 0, 9, 0);
        x.press();
        x.play(0, 0, 0);
        due("pause before another's", x.q(1, 4), 1);
        due("pause to the end", x.q(2, 4), 3);
        due("pause to the end, later", x.q(3, 4), 2);
        // Another index of the same track goes on with the time, another track or a pause begins it anew.
        x.plain();
        x.entry(1, 0, 1, 2);
        x.entry(2, 0, 2, 2);
        x.entry(3, 0, 2, 3);
        x.press();
        x.play(0, 0, 0);
        due("first", x.q(0, 4), 0);
        due("same track", x.q(1, 4), 1);
        due("other track", x.q(2, 4), 0);
        due("its next", x.q(3, 4), 1);
        lastSections();
    }

    /** Discs whose last section is whole, or has a frame or two. */
    private static void lastSections() {
        int[][] want = {{196, 2, 2, 1}, {197, 2, 3, 1}, {198, 3, 3, 1}, {195, 2, 2, 0}};
        for (int[] w : want) {
            CompactDisc x = new CompactDisc();
            x.fill(24 * (w[0] - 111), 3);
            x.entry(0, 0, 1, 0);
            due("frames", x.press(), w[0]);
            x.play(0, 0, 0);
            due(w[0] + " frames, sections found", x.told(7), w[1]);
            due(w[0] + " frames, pause", x.q(0, 4), w[2]);
            due(w[0] + " frames, second one", x.q(1, 0), w[3]);
        }
    }

    private static void discPromises() {
        promise = "9 press";
        CompactDisc x = new CompactDisc();
        due("empty", x.press(), 0);
        x.fill(24, 5);
        due("a whole frame", x.press(), 112);
        x.feed(1, 1);
        due("not pressed yet", x.frames(), 112);
        due("one byte more", x.press(), 113);
        due("the stream stays", x.streamAt(24), 1);
        x.play(0, 0, 0);
        due("played", x.told(6), 113);
        x.press();
        due("nothing was played then", x.told(6), -1);
        due("no byte", x.played(0), -1);
        x.play(0, 0, 0);
        x.wipe();
        due("empty again", x.press(), 0);
        due("no disc", x.length(), 0);
        due("no frames", x.frames(), 0);
        due("nothing was played", x.told(6), -1);
        due("nothing to slip", x.slip(0, 1), -1);

        promise = "10 frames";
        x.fill(11712, 1);
        x.press();
        due("most", x.frames(), 599);
        promise = "11 length";
        due("most", x.length(), 599 * 588);
        x.slip(3, 5);
        due("some came", x.length(), 599 * 588 + 5);
        x.slip(0, -6);
        due("some went", x.length(), 599 * 588 - 1);
        promise = "10 frames";
        due("as pressed", x.frames(), 599);

        promise = "12 bits";
        x = new CompactDisc();
        x.feed(1, 1);
        x.press();
        due("the sign, and the joint and word behind it", x.bits(0), 0b10000000000100000000001000000100);
        due("from 1 on", x.bits(1), 0b00000000001000000000010000001000);
        x.flip(65855);
        due("last", x.bits(65855), Integer.MIN_VALUE);
        due("last 31", x.bits(65825), x.bits(65824) << 1);
        due("behind", x.bits(65856), 0);
        due("before", x.bits(-1), 0);
        due("far", x.bits(Integer.MAX_VALUE), 0);
        due("far before", x.bits(Integer.MIN_VALUE), 0);

        wordsAndJoints();
        balanceAndRuns();
        signsStand();
    }

    private static void wordsAndJoints() {
        promise = "13 word";
        CompactDisc x = new CompactDisc();
        x.feed(1, 1);
        x.press();
        due("first frame's beside", x.word(0, 0), 2049);
        due("second frame's beside", x.word(1, 0), 18);
        due("byte 0 of frame 3: place 0 of inner word 2", x.word(3, 1), x.spell(1));
        due("byte 0 of frame 2", x.word(2, 1), x.spell(0));
        due("byte 0 of frame 4", x.word(4, 1), x.spell(0));
        due("a turned place", x.word(0, 13), x.spell(255));
        due("another", x.word(111, 16), x.spell(255));
        due("one behind", x.word(111, 17), x.spell(0));
        due("the last one", x.word(111, 32), x.spell(255));
        due("no word 33", x.word(0, 33), -1);
        due("no word -1", x.word(0, -1), -1);
        due("no frame -1", x.word(-1, 0), -1);
        due("no frame 112", x.word(112, 0), -1);
        due("far", x.word(Integer.MAX_VALUE, 0), -1);
        x.flip(588 + 27);
        due("as it stands now", x.word(1, 0), 18 + 8192);
        x.slip(588 * 112, -600);
        x.slip(588 * 111, -600);
        due("behind the end", x.word(111, 3), 0);

        promise = "14 joint";
        due("behind the end", x.joint(111, 0), 0);
        due("no joint 34", x.joint(0, 34), -1);
        due("no joint -1", x.joint(0, -1), -1);
        due("no frame 112", x.joint(112, 0), -1);
        due("no frame -1", x.joint(-1, 0), -1);
        due("first", x.joint(0, 0), 0);
        x.flip(24);
        due("as it stands now", x.joint(0, 0), 4);
        x = pressed(600, 9);
        for (int f = 0; f < x.frames(); f++) {
            for (int k = 0; k < 34; k++) {
                int at = 588 * f + 24 + 17 * k;
                due("joint " + f + ", " + k, x.joint(f, k), x.bits(at) >>> 29);
                due("kind", Integer.bitCount(x.joint(f, k)) <= 1, true);
            }
        }
        due("last of the disc", x.joint(x.frames() - 1, 33), 0);
    }

    private static void balanceAndRuns() {
        promise = "15 balance";
        CompactDisc x = new CompactDisc();
        due("without a disc", x.balance(0), 0);
        due("without a bit", x.balance(1), -1000000);
        x.feed(1, 1);
        x.press();
        int[] want = {0, -1, -2, -3, -4, -5, -6, -7, -8, -9, -10, -11, -10, -9};
        for (int n = 0; n < want.length; n++) {
            due("behind " + n, x.balance(n), want[n]);
        }
        due("behind the sign", x.balance(24), -2);
        due("below 0", x.balance(-1), -1000000);
        due("all", x.balance(65856), 4);
        due("more", x.balance(65857), -1000000);
        due("far more", x.balance(Integer.MAX_VALUE), -1000000);
        x.scratch(0, 600);
        due("all bits 0", x.balance(65856), 65856);
        x.flip(0);
        due("as it is now", x.balance(100), -100);

        promise = "16 run";
        due("a single 1", x.run(true), -1);
        x.flip(100);
        due("two 1s, longest", x.run(true), 99);
        due("two 1s, shortest", x.run(false), 99);
        x.flip(101);
        due("side by side", x.run(false), 0);
        due("longest stays", x.run(true), 99);
        x.flip(65855);
        due("to the last bit", x.run(true), 65855 - 102);
        x.scratch(0, 600);
        due("no 1", x.run(false), -1);
        x = pressed(500, 2);
        due("pressed, shortest", x.run(false), 2);
        due("pressed, longest", x.run(true), 10);
    }

    private static void writeSign(CompactDisc x, int p) {
        x.flip(p);
        x.flip(p + 11);
        x.flip(p + 22);
    }

    private static void signsStand() {
        promise = "17 signs";
        CompactDisc x = pressed(700, 4);
        // Before a sign no joint mocks: here a run of ten zeros comes before two of them.
        due("pressed", x.signs(), x.frames() + 2);
        due("eleven bits before frame 101", x.signAt(101), 588 * 101 - 11);
        due("frame 101", x.signAt(102), 588 * 101);
        x.flip(588 * 7 + 12);
        due("one spoiled", x.signs(), x.frames() + 1);
        x.scratch(0, 600);
        due("all gone", x.signs(), 0);
        int end = x.length();
        writeSign(x, 5);
        writeSign(x, 40);
        writeSign(x, end - 24);
        due("three", x.signs(), 3);

        promise = "18 signAt";
        due("0", x.signAt(0), 5);
        due("1", x.signAt(1), 40);
        due("2", x.signAt(2), end - 24);
        due("3", x.signAt(3), -1);
        due("-1", x.signAt(-1), -1);
        due("far", x.signAt(Integer.MAX_VALUE), -1);
        x.slip(end, -1);
        promise = "17 signs";
        x.slip(end - 1, -1);
        due("its last bit is gone", x.signs(), 2);
        x.slip(end - 2, 1);
        due("and is back", x.signs(), 2);
        x.slip(end - 1, 1);
        x.slip(30, -1);
        due("the second one moved", x.signAt(1), 39);
    }

    private static void spoilPromises() {
        promise = "19 flip";
        CompactDisc x = pressed(1, 1);
        int was = x.bits(0);
        due("first", x.flip(0), true);
        due("turned", x.bits(0), was ^ Integer.MIN_VALUE);
        due("back", x.flip(0), true);
        due("turned back", x.bits(0), was);
        due("last", x.flip(65855), true);
        due("behind", x.flip(65856), false);
        due("before", x.flip(-1), false);
        due("far", x.flip(Integer.MAX_VALUE), false);

        promise = "20 scratch";
        x = pressed(1, 1);
        due("one frame", x.scratch(1, 1), 588);
        due("the bit before", x.balance(588), pressed(1, 1).balance(588));
        due("the next frame", x.bits(1176) >>> 8, 0b100000000001000000000010);
        due("the frame", x.bits(588) | x.bits(1176 - 32) | x.bits(900), 0);
        due("none", x.scratch(2, 0), 0);
        due("still there", x.bits(1176) >>> 8, 0b100000000001000000000010);
        due("to the end", x.scratch(111, 600), 588);
        due("no frame 112", x.scratch(112, 1), -1);
        due("no frame -1", x.scratch(-1, 1), -1);
        due("far", x.scratch(Integer.MAX_VALUE, 1), -1);
        due("a frame that would wrap", x.scratch(7304291, 1), -1);
        due("below 0", x.scratch(0, -1), -1);
        due("601", x.scratch(0, 601), -1);
        x.slip(65856, 5);
        due("a few bits more", x.scratch(112, 1), 5);

        promise = "21 noise";
        x = pressed(1, 1);
        int bits = x.bits(588);
        due("one frame", x.noise(1, 1, 5), 286);
        due("its first bits", (x.bits(588) ^ bits) >>> 16, 0b0101100001000101);
        due("again", x.noise(1, 1, 5), 286);
        due("all is back", x.bits(588), bits);
        due("none", x.noise(1, 0, 5), 0);
        // The first z behind this seed is 0, which is not below 0.
        x.noise(1, 1, 634785765);
        due("z = 0", x.bits(588) < 0, bits < 0);
        due("no frame 112", x.noise(112, 1, 1), -1);
        due("no frame -1", x.noise(-1, 1, 1), -1);
        due("below 0", x.noise(0, -1, 1), -1);
        due("601", x.noise(0, 601, 1), -1);
        due("far", x.noise(Integer.MAX_VALUE, 1, 1), -1);
        x.slip(65856, -5);
        int spare = x.noise(111, 600, 5);
        due("as far as there are bits", spare <= 286 && spare >= 281, true);
        slipPromise();
    }

    private static void slipPromise() {
        promise = "22 slip";
        CompactDisc x = pressed(1, 1);
        due("in front", x.slip(0, 1), 65857);
        due("a 0 came", x.bits(0), 0b01000000000010000000000100000010);
        due("it goes", x.slip(0, -1), 65856);
        due("as before", x.bits(0), 0b10000000000100000000001000000100);
        due("inside", x.slip(12, 3), 65859);
        due("three 0s came", x.bits(0), 0b10000000000100000000000001000000);
        due("they go", x.slip(12, -3), 65856);
        due("at the end", x.slip(65856, 600), 66456);
        due("0s", x.balance(66456) - x.balance(65856) == 600 || x.balance(66456) - x.balance(65856) == -600, true);
        due("as many as there are", x.slip(66455, -600), 66455);
        due("none at the end", x.slip(66455, -5), 66455);
        due("nothing", x.slip(7, 0), 66455);
        due("behind the end", x.slip(66456, 0), -1);
        due("before", x.slip(-1, 0), -1);
        due("601", x.slip(0, 601), -1);
        due("-601", x.slip(0, -601), -1);
        due("far", x.slip(0, Integer.MIN_VALUE), -1);
        due("the length stays", x.length(), 66455);
        x = pressed(11712, 1);
        for (int k = 1; k <= 12; k++) {
            due("more", x.slip(588 * k, 600), 352212 + 600 * k);
        }
        due("too many", x.slip(0, 589), -1);
        due("just so many", x.slip(0, 588), 360000);
        due("one more", x.slip(0, 1), -1);
        due("none more", x.slip(360000, 0), 360000);
        x = pressed(1, 1);
        for (int k = 0; k < 109; k++) {
            x.slip(0, -600);
        }
        due("all go", x.slip(0, -600), 0);
        due("the disc is there all the same", x.slip(0, 3), 3);
        due("its frames were pressed", x.frames(), 112);
    }

    private static void playPromises() {
        promise = "23 play";
        CompactDisc x = pressed(100, 6);
        due("as pressed", x.play(0, 0, 0), 0);
        for (int[] wrong : new int[][] {{-1, 0, 0}, {3, 0, 0}, {0, -1, 0}, {0, 3, 0}, {0, 0, -1}, {0, 0, 21}}) {
            due("wrong", x.play(wrong[0], wrong[1], wrong[2]), -1);
        }
        due("what was played stays", x.told(6), 116);
        due("widest", x.play(2, 2, 20), 0);
        x.scratch(0, 600);
        due("wrong", x.play(3, 3, 3), -1);
        due("played before", x.told(3), 0);
        due("all is lost", x.play(2, 2, 20), 120);

        promise = "24 played";
        due("nothing", x.played(0), 0);
        due("none", x.played(120), -1);
        due("none before", x.played(-1), -1);
        promise = "25 isSure";
        due("nothing", x.isSure(0), false);
        promise = "29 told";
        due("words that are none", x.told(0), 116 * 32);
        due("inner ones failed", x.told(1), 116);
        due("outer ones failed", x.told(2), 116);
        due("hidden", x.told(4), 60);
        due("marks", x.told(5), 28);
        due("found", x.told(6), 116);
        due("sections", x.told(7), 0);
        due("8", x.told(8), -1);
        due("-1", x.told(-1), -1);

        promise = "24 played";
        x.press();
        due("nothing was played", x.played(0), -1);
        x.play(1, 1, 0);
        for (int i = 0; i < 100; i++) {
            due("byte " + i, x.played(i), x.streamAt(i));
            promise = "25 isSure";
            due("byte " + i, x.isSure(i), true);
            promise = "24 played";
        }
        due("filled up", x.played(119), 0);
        due("none", x.played(120), -1);
        promise = "25 isSure";
        due("none", x.isSure(120), false);
        due("none before", x.isSure(-1), false);
        x.wipe();
        due("the stream that was pressed", x.isSure(119), true);
        hiding();
        fates();
    }

    private static void hiding() {
        promise = "26 heard";
        CompactDisc x = new CompactDisc();
        due("nothing was played", x.heard(0, false), 65536);
        x.fill(480, 20);
        x.press();
        x.scratch(3, 17);
        x.play(1, 1, 0);
        due("before the first: the mean of 0 and the next, cut down", x.heard(0, false), -9399);
        due("the next", x.heard(1, false), -18797);
        due("a mean", x.heard(2, false), -4417);
        due("another", x.heard(3, false), 9963);
        due("sure", x.isSure(0) && x.isSure(1), false);
        due("six hidden", x.told(4), 6);
        due("the right side is sure", x.heard(0, true), (short) (x.streamAt(2) << 8 | x.streamAt(3)));
        due("last", x.heard(119, true), (short) (x.streamAt(478) << 8 | x.streamAt(479)));
        due("none", x.heard(120, true), 65536);
        due("none before", x.heard(-1, false), 65536);
        x.press();
        due("nothing was played then", x.heard(0, false), 65536);
        // Where both of two neighbours are lost, what was heard before goes on.
        x.scratch(30, 60);
        x.play(2, 2, 0);
        int held = 0;
        for (int i = 1; i < 119; i++) {
            boolean next = x.isSure(4 * i + 4) && x.isSure(4 * i + 5);
            if (!(x.isSure(4 * i) && x.isSure(4 * i + 1)) && !next) {
                due("held " + i, x.heard(i, false), x.heard(i - 1, false));
                held++;
            }
        }
        due("some are held", held > 0, true);
    }

    /** Turns place i of inner word w on the disc to another byte, by making its word that of the byte. */
    private static void respell(CompactDisc x, int w, int i, int b) {
        int frame = i % 2 == 0 ? w + 1 : w;
        int turn = x.word(frame, i + 1) ^ x.spell(b);
        for (int k = 0; k < 14; k++) {
            if ((turn >>> (13 - k) & 1) == 1) {
                x.flip(588 * frame + 27 + 17 * (i + 1) + k);
            }
        }
    }

    private static void fates() {
        promise = "27 inner";
        CompactDisc x = pressed(240, 8);
        due("nothing was played", x.inner(0), -1);
        due("outer likewise", x.outer(0), -1);
        int other = x.read(x.word(10, 4)) ^ 85;
        respell(x, 10, 3, other);
        x.play(1, 1, 0);
        due("one place differs", x.inner(10), 1);
        due("its neighbours", x.inner(9) + x.inner(11), 0);
        due("the last has no next frame", x.inner(x.told(6) - 1), -2);
        due("none", x.inner(x.told(6)), -1);
        due("none before", x.inner(-1), -1);
        due("no outer word has met it", x.outer(10 - 4 * 3 + 4), 0);
        x.play(0, 1, 0);
        due("no reach", x.inner(10), -2);
        promise = "28 outer";
        for (int v = 0; v < 8; v++) {
            // Inner word 10 holds place i of outer word 10 - 4 i.
            boolean met = v == 2 || v == 6;
            due("outer word " + v, x.outer(v), met ? 1 : 0);
        }
        due("last", x.outer(x.told(6) - 1), -2);
        due("none", x.outer(x.told(6)), -1);
        due("none before", x.outer(-1), -1);
        promise = "27 inner";
        int second = x.read(x.word(11, 3)) ^ 3;
        respell(x, 10, 2, second);
        x.play(1, 1, 0);
        due("two, reach 1", x.inner(10), -2);
        x.play(2, 1, 0);
        due("two, reach 2", x.inner(10), 2);
        x.flip(588 * 10 + 27 + 17 * 10);
        x.flip(588 * 10 + 27 + 17 * 10 + 1);
        x.flip(588 * 10 + 27 + 17 * 10 + 2);
        x.play(2, 1, 0);
        due("a marked one more", x.told(0), 1);
        due("m + 2 r is above 4", x.inner(10), -2);
    }

    private static void framesAreFound() {
        promise = "23 play, frames";
        CompactDisc x = pressed(240, 8);
        x.slip(588 * 50, 3);
        x.play(1, 1, 2);
        due("out of the window", x.told(1) > 60, true);
        due("one more at the end", x.told(6), 122);
        x.play(1, 1, 3);
        due("in the window", x.told(3), 0);
        due("as many", x.told(6), 121);
        x.press();
        x.slip(588 * 50, -20);
        x.play(1, 1, 19);
        due("out of the window, before", x.told(1) > 60, true);
        x.play(1, 1, 20);
        due("in the window, before", x.told(3), 0);
        x.press();
        x.slip(0, 500);
        due("the first sign anywhere", x.play(1, 1, 0), 0);
        due("as many", x.told(6), 121);
        x.scratch(0, 600);
        x.play(1, 1, 0);
        due("at 0 without a sign", x.told(6), 122);
        signsOnBothSides();
        emptiedDisc();
    }

    private static int wordsRead(CompactDisc x, int window) {
        x.play(0, 0, window);
        return 32 * x.told(6) - x.told(0);
    }

    private static void signsOnBothSides() {
        promise = "23 play, the lesser of two";
        CompactDisc x = pressed(1, 1);
        x.scratch(0, 600);
        writeSign(x, 0);
        writeSign(x, 568);
        writeSign(x, 608);
        due("three signs", x.signs(), 3);
        int before = wordsRead(x, 20);
        int beforeNarrow = wordsRead(x, 19);
        // The word of 1 as word 20 of a frame from 568 on; seen from 588 or 608, this is none.
        x.flip(568 + 27 + 17 * 20);
        x.flip(568 + 27 + 17 * 20 + 5);
        due("word", wordsRead(x, 20), before + 1);
        due("both are too far", wordsRead(x, 19), beforeNarrow);

        promise = "23 play, the nearest";
        x.scratch(0, 600);
        writeSign(x, 0);
        writeSign(x, 569);
        writeSign(x, 606);
        x.flip(606 + 27 + 2);
        x.flip(606 + 27 + 13);
        x.flip(606 + 588 + 27 + 9);
        x.flip(606 + 588 + 27 + 12);
        x.play(0, 0, 20);
        due("section", x.told(7), 1);
    }

    private static void emptiedDisc() {
        promise = "23 play, a disc without bits";
        CompactDisc x = pressed(1, 1);
        for (int k = 0; k < 110; k++) {
            x.slip(0, -600);
        }
        due("length", x.length(), 0);
        due("nothing is sure", x.play(2, 2, 20), 24);
        due("the first frame begins at 0", x.told(6), 1);
    }

    private static String digits(int n) {
        return PlainModel.binary(n / 10, 4) + PlainModel.binary(n % 10, 4);
    }

    /** Writes a section's Q on a disc without pauses: the words of 0 and 64 differ in bit 11 alone. */
    private static void forge(CompactDisc x, int section, String bits80) {
        String bits = bits80 + PlainModel.checkBits(bits80);
        for (int k = 0; k < 96; k++) {
            int frame = 98 * section + 2 + k;
            char now = x.word(frame, 0) == x.spell(64) ? '1' : '0';
            if (now != bits.charAt(k)) {
                x.flip(588 * frame + 27 + 11);
            }
        }
    }

    private static int forged(CompactDisc x, String bits80, int what) {
        forge(x, 0, bits80);
        x.play(0, 0, 0);
        return x.q(0, what);
    }

    private static void labelPromises() {
        promise = "30 q";
        CompactDisc x = new CompactDisc();
        due("nothing was played", x.q(0, 0), -1);
        x.fill(24 * 90, 5);
        x.begin(4500 * 12 + 75 * 34 + 56);
        x.entry(0, 10, 98, 76);
        x.press();
        String head = "10100001" + digits(98) + digits(76) + digits(0) + digits(0) + digits(0) + "00000000";
        String bits = head + digits(12) + digits(34) + digits(56);
        bits += PlainModel.checkBits(bits);
        for (int k = 0; k < 96; k++) {
            due("bit " + k, x.word(2 + k, 0), x.spell(bits.charAt(k) == '1' ? 64 : 0));
        }
        x.play(0, 0, 0);
        due("sections", x.told(7), 3);
        int[] want = {1, 10, 98, 76, 1, 4500 * 12 + 75 * 34 + 57, 0};
        for (int what = 0; what < 7; what++) {
            due("what " + what, x.q(1, what), want[what]);
        }
        due("what 7", x.q(1, 7), -1);
        due("what -1", x.q(1, -1), -1);
        due("no section -1", x.q(-1, 0), -1);
        due("no section 3", x.q(3, 0), -1);
        due("a short one", x.q(2, 0), 0);
        due("a short one's track", x.q(2, 2), -1);
        x.scratch(0, 600);
        due("as it was played", x.q(1, 2), 98);
        x.press();
        due("nothing was played then", x.q(1, 2), -1);
        checkBitsByHand();
        spoiledLabels(x);
        forgedLabels();
    }

    private static void checkBitsByHand() {
        CompactDisc x = pressed(24, 1);
        String bits = "00000001" + "00000001" + "00000001" + "0".repeat(56) + "0011110001001010";
        for (int k = 0; k < 96; k++) {
            due("by hand, bit " + k, x.word(2 + k, 0), x.spell(bits.charAt(k) == '1' ? 64 : 0));
        }
    }

    private static void spoiledLabels(CompactDisc x) {
        // The words of 0 and 128 differ in their last bit alone.
        int frame = 98 + 2 + 60;
        due("a zero of Q", x.word(frame, 0), x.spell(0));
        x.flip(588 * frame + 27 + 13);
        x.play(0, 0, 0);
        due("a pause told once", x.q(1, 6), 1);
        due("still sound", x.q(1, 0), 1);
        x.flip(588 * frame + 27 + 13);
        x.flip(588 * frame + 27 + 11);
        x.play(0, 0, 0);
        due("checks are wrong", x.q(1, 0), 0);
        due("no time", x.q(1, 4), -1);
        due("the one before is sound", x.q(0, 0), 1);
        x.flip(588 * frame + 27 + 11);
        x.flip(588 * frame + 27);
        x.play(0, 0, 0);
        due("no word of a byte", x.q(1, 0), 0);
        x.flip(588 * frame + 27);
        x.flip(588 * 99 + 27);
        x.play(0, 0, 0);
        due("a section without its second mark", x.told(7), 2);
        due("the next one is found in its place", x.q(1, 0), 0);
    }

    private static void forgedLabels() {
        CompactDisc x = pressed(24, 1);
        String head = "00000001";
        String zero = "00000000";
        String ten = "00001010";
        String tens = "10100000";
        String none = zero + zero + zero;
        due("most", forged(x, head + digits(99) + digits(99) + digits(99) + digits(59) + digits(74) + zero
                + digits(99) + digits(59) + digits(74), 0), 1);
        due("time", x.q(0, 4), 99 * 4500 + 59 * 75 + 74);
        due("place", x.q(0, 5), 99 * 4500 + 59 * 75 + 74);
        due("all 0", forged(x, head + zero + zero + none + zero + none, 0), 1);
        due("control", forged(x, "11110001" + zero + zero + none + zero + none, 1), 15);
        for (String mode : new String[] {"0000", "0010", "0011", "0101", "1001"}) {
            due("mode " + mode, forged(x, "0000" + mode + zero + zero + none + zero + none, 0), 0);
        }
        String[] parts = {zero, zero, zero, zero, zero, zero, zero, zero};
        for (int k = 0; k < 8; k++) {
            for (String bad : new String[] {ten, tens}) {
                parts[k] = bad;
                due("figure " + k, forged(x, head + joined(parts), 0), 0);
            }
            boolean seconds = k == 3 || k == 6;
            boolean hundredths = k == 4 || k == 7;
            parts[k] = digits(60);
            due("60 at " + k, forged(x, head + joined(parts), 0), seconds ? 0 : 1);
            parts[k] = digits(75);
            due("75 at " + k, forged(x, head + joined(parts), 0), seconds || hundredths ? 0 : 1);
            parts[k] = zero;
        }
        due("the eight bits between are free", forged(x, head + zero + zero + none + "11111111" + none, 0), 1);
    }

    private static String joined(String[] parts) {
        return parts[0] + parts[1] + parts[2] + parts[3] + parts[4] + "00000000" + parts[5] + parts[6] + parts[7];
    }

    private static void burstAndWords() {
        promise = "31 burst";
        CompactDisc x = new CompactDisc();
        int[][] want = {{0, -1}, {-1, -1}, {1, 1}, {3, 1}, {4, 2}, {7, 2}, {8, 3}, {15, 4}, {16, 5}, {107, 27},
            {108, 28}, {112, 28}, {200, 28}, {201, -1}, {Integer.MAX_VALUE, -1}, {Integer.MIN_VALUE, -1}};
        for (int[] w : want) {
            due("many = " + w[0], x.burst(w[0]), w[1]);
        }
        promise = "32 spell";
        due("0", x.spell(0), 4640);
        due("1", x.spell(1), 8448);
        due("128", x.spell(128), 4641);
        due("255", x.spell(255), 2066);
        due("256", x.spell(256), -1);
        due("-1", x.spell(-1), -1);
        promise = "33 read";
        int known = 0;
        for (int word = 0; word < 16384; word++) {
            int b = x.read(word);
            if (b != -1) {
                known++;
                due("word " + word, x.spell(b), word);
            }
        }
        due("so many words", known, 256);
        due("of 8448", x.read(8448), 1);
        due("of a mark", x.read(2049), -1);
        due("beyond", x.read(16384 + 4640), -1);
        due("below", x.read(-4640), -1);
    }

    private static void benchPromises() {
        promise = "34 put";
        CompactDisc x = new CompactDisc();
        due("was", x.put(3, 255), 0);
        due("was then", x.put(3, 7), 255);
        due("not 256", x.put(3, 256), -1);
        due("not -1", x.put(3, -1), -1);
        due("no place 32", x.put(32, 1), -1);
        due("no place -1", x.put(-1, 1), -1);
        due("it stays", x.at(3), 7);
        x.mark(3, true);
        x.put(3, 256);
        due("a mark stays", x.mark(3, true), true);
        x.put(3, 9);
        due("a mark goes", x.mark(3, true), false);

        promise = "35 mark";
        due("was", x.mark(3, true), true);
        due("keeps its byte", x.at(3), 9);
        due("was still", x.mark(3, false), true);
        due("is not", x.mark(3, false), false);
        due("another", x.mark(4, true), false);
        due("no place 32", x.mark(32, true), false);
        due("nor a second time", x.mark(32, true), false);
        due("no place -1", x.mark(-1, true), false);
        due("last", x.mark(31, true), false);
        due("last was", x.mark(31, true), true);

        promise = "36 at";
        due("none", x.at(32), -1);
        due("none before", x.at(-1), -1);
        due("far", x.at(Integer.MIN_VALUE), -1);
        x.put(31, 200);
        due("last", x.at(31), 200);
        sealPromise();
        syndromePromise();
        mendPromise();
    }

    private static CompactDisc benchOf(int step) {
        CompactDisc x = new CompactDisc();
        for (int i = 0; i < 32; i++) {
            x.put(i, (i * step + 17) & 255);
        }
        return x;
    }

    private static void sealPromise() {
        promise = "37 seal";
        for (int turn = 0; turn < 2; turn++) {
            boolean inner = turn == 0;
            int n = inner ? 32 : 28;
            int first = inner ? 28 : 12;
            CompactDisc x = benchOf(41);
            for (int i = 0; i < 32; i++) {
                x.mark(i, true);
            }
            x.seal(inner);
            for (int j = 0; j < 4; j++) {
                due("sum " + j, x.syndrome(inner, j), 0);
            }
            for (int i = 0; i < 32; i++) {
                if (i < first || i > first + 3) {
                    due("place " + i, x.at(i), (i * 41 + 17) & 255);
                }
                due("mark " + i, x.mark(i, false), i >= n);
            }
        }
        CompactDisc x = new CompactDisc();
        x.put(27, 1);
        x.seal(true);
        // The product of (x + 1), (x + 2), (x + 4) and (x + 8).
        int[] want = {15, 54, 120, 64};
        for (int k = 0; k < 4; k++) {
            due("check " + k, x.at(28 + k), want[k]);
        }
    }

    private static void syndromePromise() {
        promise = "38 syndrome";
        CompactDisc x = new CompactDisc();
        x.put(31, 5);
        for (int j = 0; j < 4; j++) {
            due("inner, last place", x.syndrome(true, j), 5);
            due("outer, not of it", x.syndrome(false, j), 0);
        }
        x.put(31, 0);
        x.put(23, 1);
        int[] inner = {1, 29, 76, 143};
        int[] outer = {1, 16, 29, 205};
        for (int j = 0; j < 4; j++) {
            due("inner " + j, x.syndrome(true, j), inner[j]);
            due("outer " + j, x.syndrome(false, j), outer[j]);
        }
        x.put(22, 1);
        due("a sum", x.syndrome(true, 1), 29 ^ 58);
        due("4", x.syndrome(true, 4), -1);
        due("-1", x.syndrome(false, -1), -1);
    }

    /** A sealed word, so many marked and so many other places of which are spoiled. */
    private static CompactDisc spoiledBench(boolean inner, int marked, int differing) {
        CompactDisc x = benchOf(77);
        x.seal(inner);
        for (int k = 0; k < marked; k++) {
            x.put(6 * k + 1, x.at(6 * k + 1) ^ (3 + k));
            x.mark(6 * k + 1, true);
        }
        for (int k = 0; k < differing; k++) {
            x.put(9 * k, x.at(9 * k) ^ (90 + k));
        }
        return x;
    }

    private static void mendPromise() {
        promise = "39 mend";
        for (int turn = 0; turn < 2; turn++) {
            boolean inner = turn == 0;
            CompactDisc whole = benchOf(77);
            whole.seal(inner);
            for (int m = 0; m <= 5; m++) {
                for (int r = 0; r <= 2; r++) {
                    for (int reach = 0; reach <= 2; reach++) {
                        // Five places that are marked or differ may be near another word of the code.
                        if (m + r < 5 && !(m == 2 && r == 2)) {
                            mendSpoiled(whole, inner, m, r, reach);
                        }
                    }
                }
            }
            CompactDisc x = spoiledBench(inner, 1, 1);
            due("reach 3", x.mend(inner, 3), -1);
            due("reach -1", x.mend(inner, -1), -1);
            due("changes nothing", x.mark(1, true), true);
            due("marked, but right", spoiledAndRight(inner), 3);
            due("four marks can always be mended", spoiledBench(inner, 4, 2).mend(inner, 0), 4);
            due("five cannot", spoiledBench(inner, 5, 0).mend(inner, 2), -2);
        }
        everyPairOfPlaces(true);
        everyPairOfPlaces(false);
        nearMisses(true);
        nearMisses(false);
        CompactDisc x = benchOf(5);
        x.seal(false);
        for (int i = 28; i < 32; i++) {
            x.mark(i, true);
        }
        x.put(0, x.at(0) ^ 1);
        due("marks of other places do not count", x.mend(false, 2), 1);
        due("and stay", x.mark(30, true), true);
    }

    private static void everyPairOfPlaces(boolean inner) {
        int n = inner ? 32 : 28;
        CompactDisc whole = benchOf(77);
        whole.seal(inner);
        CompactDisc x = benchOf(77);
        x.seal(inner);
        for (int a = 0; a < n; a++) {
            for (int b = a + 1; b < n; b++) {
                x.put(a, x.at(a) ^ (1 + (a * 7 + b * 13) % 255));
                x.put(b, x.at(b) ^ (1 + (a * 29 + b * 3) % 255));
                due("places " + a + " and " + b, x.mend(inner, 2), 2);
                due("place " + a, x.at(a), whole.at(a));
                due("place " + b, x.at(b), whole.at(b));
            }
        }
    }

    private static int locator(boolean inner, int place) {
        return PlainModel.power((inner ? 31 : 27) - place);
    }

    /** Two marked places, and two others that differ so that together they look almost like a single one. */
    private static void nearMisses(boolean inner) {
        int x1 = locator(inner, 4);
        int x2 = locator(inner, 9);
        int x3 = locator(inner, 14);
        int x4 = locator(inner, 20);
        int l3 = PlainModel.times(x3 ^ x1, x3 ^ x2);
        int l4 = PlainModel.times(x4 ^ x1, x4 ^ x2);
        // No single place can bear a first sum of 0, or a second one of 0; nor may it be a marked one.
        missed(inner, l4, l3);
        missed(inner, PlainModel.times(l4, x4), PlainModel.times(l3, x3));
        missed(inner, PlainModel.times(l4, x4 ^ x1), PlainModel.times(l3, x3 ^ x1));
        missed(inner, PlainModel.times(l4, x4 ^ x2), PlainModel.times(l3, x3 ^ x2));
    }

    private static void missed(boolean inner, int at14, int at20) {
        CompactDisc x = benchOf(77);
        x.seal(inner);
        x.mark(4, true);
        x.mark(9, true);
        x.put(14, x.at(14) ^ at14);
        x.put(20, x.at(20) ^ at20);
        int was = x.at(14);
        due("a near miss", x.mend(inner, 2), -2);
        due("stays", x.at(14), was);
    }

    private static void mendSpoiled(CompactDisc whole, boolean inner, int m, int r, int reach) {
        CompactDisc x = spoiledBench(inner, m, r);
        boolean can = r <= reach && m + 2 * r <= 4;
        due(inner + " " + m + " " + r + " " + reach, x.mend(inner, reach), can ? m + r : -2);
        due("marks", x.mark(1, false), m > 0 && !can);
        CompactDisc like = can ? whole : spoiledBench(inner, m, r);
        for (int i = 0; i < 32; i++) {
            due("place " + i, x.at(i), like.at(i));
        }
    }

    private static int spoiledAndRight(boolean inner) {
        CompactDisc x = benchOf(77);
        x.seal(inner);
        x.mark(2, true);
        x.mark(3, true);
        x.mark(20, true);
        return x.mend(inner, 0);
    }
}
