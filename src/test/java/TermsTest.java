import java.util.Random;

/**
 * The edges that the document's terms name, in its order: codes, stream, spelling, beside, playing. Each
 * sentence has a group of its own, and no object is called more than 512 times.
 */
public final class TermsTest {
    private static final Tally TALLY = new Tally();
    private static String sentence = "";

    private static void edge(String words) {
        sentence = "\"" + words + "\": ";
    }

    private static void due(String what, long got, long want) {
        TALLY.due(sentence + what, got, want);
    }

    private static void due(String what, boolean got, boolean want) {
        TALLY.due(sentence + what, got, want);
    }

    public static void main(String[] args) {
        codes();
        mending();
        noSuchWord();
        cutIntoFrames();
        samplesStand();
        delays();
        turnedPlaces();
        sectionsBegin();
        joints();
        sectionsTell();
        entriesHold();
        times();
        framesFound();
        nextFrames();
        windows();
        discEnds();
        innerWordsPlayed();
        outerWordsPlayed();
        outerWordsLost();
        wordsThatThereAreNot();
        meansAreCutDown();
        hidingRow();
        lastCalls();
        TALLY.end();
    }

    private static void codes() {
        edge("with its CHECKS at the places 12 .. 15, the INNER one n = 32, with its checks at 28 .. 31");
        for (boolean inner : new boolean[] {true, false}) {
            int size = inner ? 32 : 28;
            int first = inner ? 28 : 12;
            for (int i = 0; i < 32; i++) {
                CompactDisc x = new CompactDisc();
                x.put(i, 200);
                x.seal(inner);
                boolean check = i >= first && i < first + 4;
                due(inner + ", place " + i, x.at(i), check ? 0 : 200);
                boolean counts = i < size && !check;
                due(inner + ", place " + i + " asks for checks", x.at(first) != 0, counts);
            }
        }
        edge("of whose product the rest by x^8 + x^4 + x^3 + x^2 + 1 (285) is taken");
        int power = 1;
        CompactDisc x = new CompactDisc();
        for (int i = 31; i >= 0; i--) {
            x.put(i, 1);
            due("g^" + (31 - i), x.syndrome(true, 1), power);
            x.put(i, 0);
            power = power < 128 ? 2 * power : 2 * power - 256 ^ 29;
        }
    }

    /** A word of the code, m of its places marked and wrong, r others wrong, from one place on. */
    private static CompactDisc spoiled(boolean inner, int m, int r, int from) {
        int size = inner ? 32 : 28;
        CompactDisc x = new CompactDisc();
        for (int i = 0; i < 32; i++) {
            x.put(i, 37 * i & 255);
        }
        x.seal(inner);
        for (int k = 0; k < m + r; k++) {
            int i = (from + 5 * k) % size;
            x.put(i, x.at(i) ^ (20 + 31 * k + 7 * from) % 255 + 1);
            if (k < m) {
                x.mark(i, true);
            }
        }
        return x;
    }

    private static void mending() {
        for (boolean inner : new boolean[] {true, false}) {
            for (int from = 0; from < (inner ? 32 : 28); from++) {
                mendingFrom(inner, from);
            }
        }
    }

    private static void mendingFrom(boolean inner, int from) {
        int[][] all = {{0, 0}, {1, 0}, {2, 0}, {3, 0}, {4, 0}, {5, 0}, {0, 1}, {1, 1}, {2, 1}, {3, 1}, {0, 2}, {1, 2}};
        for (int[] mr : all) {
            for (int reach = 0; reach <= 2; reach++) {
                int m = mr[0];
                int r = mr[1];
                boolean can = m <= 4 && r <= reach && m + 2 * r <= 4;
                edge(m > 4 ? "If m is above 4, it FAILS" : "r being at most the reach, and m + 2 r at most 4");
                CompactDisc x = spoiled(inner, m, r, from);
                String name = inner + ", m = " + m + ", r = " + r + ", reach " + reach + ", from " + from;
                due(name, x.mend(inner, reach), can ? m + r : -2);
                edge(can ? "Else it becomes that word of the code" : "A word that fails stays as it was");
                CompactDisc like = can ? spoiled(inner, 0, 0, 0) : spoiled(inner, m, r, from);
                for (int i = 0; i < 32; i++) {
                    due(name + ", place " + i, x.at(i), like.at(i));
                    due(name + ", mark " + i, x.mark(i, false), like.mark(i, false));
                }
            }
        }
    }

    /** Two marks and two wrong places besides: now and then that is near another word of the code. */
    private static void noSuchWord() {
        edge("if there is none, it fails");
        Random dice = new Random(39);
        for (boolean inner : new boolean[] {true, false}) {
            int size = inner ? 32 : 28;
            int mended = 0;
            for (int turn = 0; turn < 2000; turn++) {
                int[] word = new int[32];
                boolean[] marks = new boolean[32];
                CompactDisc x = new CompactDisc();
                int from = dice.nextInt(size);
                for (int k = 0; k < 4; k++) {
                    int i = (from + 5 * k) % size;
                    word[i] = 1 + dice.nextInt(255);
                    marks[i] = k % 2 == 0;
                    x.put(i, word[i]);
                    x.mark(i, marks[i]);
                }
                int fate = PlainModel.mendWord(word, marks, size, 2);
                due(inner + ", turn " + turn, x.mend(inner, 2), fate);
                for (int i = 0; i < size; i++) {
                    due(inner + ", turn " + turn + ", place " + i, x.at(i), word[i]);
                }
                mended += fate == -2 ? 0 : 1;
            }
            due("some are near another word, most are not", mended > 20 && mended < 1000, true);
        }
    }

    private static void cutIntoFrames() {
        edge("cut into FRAMES of 24 bytes, numbered from 0, the last one filled with 0");
        for (int bytes : new int[] {1, 23, 24, 25, 47}) {
            CompactDisc x = new CompactDisc();
            for (int i = 0; i < bytes; i++) {
                x.feed(100 + i, 1);
            }
            x.press();
            x.play(0, 0, 0);
            int filled = bytes <= 24 ? 24 : 48;
            for (int i = 0; i < filled; i++) {
                due(bytes + " bytes, byte " + i, x.played(i), i < bytes ? 100 + i : 0);
            }
            due(bytes + " bytes, none behind", x.played(filled), -1);
        }
        edge("The stream has at most 11712 bytes");
        CompactDisc x = DiscHand.pressed(11712, 6);
        due("all of them are sure", x.play(0, 0, 0), 0);
        for (int i = 11712 - 48; i < 11712; i++) {
            due("byte " + i, x.played(i), x.streamAt(i));
        }
    }

    /** Where each byte of a frame first comes: the disc frame and the byte of it. */
    private static void samplesStand() {
        edge("its places 0 .. 11 are the samples 0, 2, 4 of the left and 0, 2, 4 of the right side of frame v - 2,"
                + " its places 16 .. 27 the samples 1, 3, 5 of the left and 1, 3, 5 of the right side of frame v");
        int[] even = {0, 1, 8, 9, 16, 17, 2, 3, 10, 11, 18, 19};
        int[] odd = {4, 5, 12, 13, 20, 21, 6, 7, 14, 15, 22, 23};
        for (int k = 0; k < 12; k++) {
            byteStands(even[k], 2, k);
            byteStands(odd[k], 0, 16 + k);
        }
    }

    private static void byteStands(int i, int outer, int place) {
        CompactDisc x = new CompactDisc();
        x.fill(0, 0);
        for (int k = 0; k < 24; k++) {
            x.feed(k == i ? 201 : 0, 1);
        }
        x.press();
        int frame = DiscHand.frameOf(outer + 4 * place, place);
        due("byte " + i, x.word(frame, place + 1), x.spell(201));
        due("byte " + i + ", a frame before", x.word(frame - 1, place + 1), x.spell(0));
        due("byte " + i + ", a frame later", x.word(frame + 1, place + 1), x.spell(0));
    }

    private static void delays() {
        edge("Words with a number below 0 are all 0");
        CompactDisc x = new CompactDisc();
        for (int k = 0; k < 21; k++) {
            x.feed(-1L, 8);
        }
        x.press();
        for (int i = 0; i < 28; i++) {
            if (i >= 12 && i <= 15) {
                continue;
            }
            int first = DiscHand.frameOf((i < 12 ? 2 : 0) + 4 * i, i);
            due("place " + i + " before its first", x.word(Math.max(first - 1, 0), i + 1), x.spell(first == 0 ? 255 : 0));
            due("place " + i + ", its first", x.word(first, i + 1), x.spell(255));
        }
        for (int i = 0; i < 32; i += 2) {
            boolean turned = i >= 12 && i <= 15 || i >= 28;
            due("place " + i + " of inner word -1", x.word(0, i + 1), x.spell(turned ? 255 : 0));
        }
        for (int frame = 0; frame < 2; frame++) {
            for (int i = 0; i < 32; i++) {
                boolean turned = i >= 12 && i <= 15 || i >= 28;
                due("place " + i + " of frame " + frame, x.word(frame, i + 1), x.spell(turned ? 255 : 0));
            }
        }
        edge("frames with other numbers are all 0");
        int frames = x.frames();
        for (int i = 0; i < 32; i++) {
            boolean turned = i >= 12 && i <= 15 || i >= 28;
            due("place " + i + " of the last frame", x.word(frames - 1, i + 1), x.spell(turned ? 255 : 0));
        }
        // There are seven frames, 0 .. 6.
        due("the last place of the last frame's bytes", x.word(6 + 4 * 27, 28), x.spell(255));
        due("and none later", x.word(6 + 4 * 27 + 1, 28), x.spell(0));
    }

    private static void turnedPlaces() {
        edge("those with i 12 .. 15 and 28 .. 31 are turned");
        CompactDisc x = new CompactDisc();
        x.feed(0, 1);
        x.press();
        for (int frame : new int[] {0, 1, 60, 110, 111}) {
            for (int i = 0; i < 32; i++) {
                boolean turned = i >= 12 && i <= 15 || i >= 28;
                due("frame " + frame + ", byte " + i, x.word(frame, i + 1), x.spell(turned ? 255 : 0));
            }
        }
    }

    private static void sectionsBegin() {
        edge("the first frame of a SECTION has 00100000000001, the second one 00000000010010");
        CompactDisc x = new CompactDisc();
        x.fill(24 * 86, 1);
        due("197 frames", x.press(), 197);
        int[] firsts = {0, 98, 196};
        for (int f : firsts) {
            due("frame " + f, x.word(f, 0), 0b00100000000001);
        }
        due("frame 1", x.word(1, 0), 0b00000000010010);
        due("frame 99", x.word(99, 0), 0b00000000010010);
        for (int f : new int[] {2, 97, 100, 195}) {
            due("frame " + f + " tells a bit", x.word(f, 0) == x.spell(0) || x.word(f, 0) == x.spell(64), true);
        }
    }

    private static void joints() {
        edge("no run that ends in the joint or at the first 1 behind it (of the word or sign that follows)"
                + " has less than 2 or more than 10 zeros");
        for (int seed = 0; seed < 12; seed++) {
            CompactDisc x = DiscHand.pressed(24 * 40, seed);
            due("shortest", x.run(false), 2);
            due("longest", x.run(true), 10);
        }
        edge("Behind the last word of the disc stands 000");
        for (int seed = 0; seed < 12; seed++) {
            CompactDisc x = DiscHand.pressed(1 + seed, seed);
            due("last joint", x.joint(x.frames() - 1, 33), 0);
            due("last bits", x.bits(x.length() - 3), 0);
        }
        edge("its last bit is in the joint or in that word");
        for (int seed = 0; seed < 12; seed++) {
            CompactDisc x = DiscHand.pressed(24 * 40, seed);
            for (int k = 0; k < x.signs() && k < 160; k++) {
                int at = x.signAt(k) % 588;
                // Before a sign no joint mocks: 11 bits before it, its first 1 may end another one.
                due("no sign but a frame's", at == 0 || at == 577 || at == 566, true);
            }
        }
        jointsByTheRule();
    }

    /** Every joint of some frames against all four, counted bit by bit. */
    private static void jointsByTheRule() {
        edge("the balance behind the word or sign that follows is least without its sign; of the same the lesser number");
        int ties = 0;
        int mocked = 0;
        // In these discs a joint that would mock is otherwise the best one within the first ten frames.
        for (int seed : new int[] {7, 40, 96, 112, 172, 227, 247, 254, 256, 318, 339, 355}) {
            CompactDisc x = DiscHand.pressed(240, seed);
            StringBuilder text = new StringBuilder();
            for (int i = 0; i < 588 * 11; i += 32) {
                text.append(PlainModel.binary(x.bits(i), 32));
            }
            String disc = text.toString();
            for (int frame = 0; frame < 10; frame++) {
                for (int k = 0; k < 34; k++) {
                    int at = 588 * frame + 24 + 17 * k;
                    JointRule rule = new JointRule(disc, at, k == 33 ? 24 : 14);
                    String name = "seed " + seed + ", frame " + frame + ", joint " + k;
                    due(name, Integer.parseInt(disc.substring(at, at + 3), 2), rule.best());
                    ties += rule.tie() ? 1 : 0;
                    mocked += rule.avoided() ? 1 : 0;
                }
            }
        }
        due("some were chosen of the same", ties > 100, true);
        due("some would have mocked", mocked >= 12, true);
    }

    private static final class JointRule {
        private static final int[] JOINTS = {0, 1, 2, 4};
        private final int[] far = new int[4];
        private final boolean[] may = new boolean[4];
        private final boolean[] mocks = new boolean[4];

        JointRule(String disc, int at, int many) {
            String before = disc.substring(0, at);
            String next = disc.substring(at + 3, at + 3 + many);
            for (int k = 0; k < 4; k++) {
                String with = before + PlainModel.binary(JOINTS[k], 3) + next;
                far[k] = Math.abs(balanceOf(with));
                may[k] = runsAreRight(with.substring(before.lastIndexOf('1')), next);
                int sign = with.indexOf(PlainModel.SIGN, Math.max(0, at - 23));
                mocks[k] = many == 14 && sign >= 0;
            }
        }

        private static int balanceOf(String bits) {
            int level = 1;
            int sum = 0;
            for (int k = 0; k < bits.length(); k++) {
                level = bits.charAt(k) == '1' ? -level : level;
                sum += level;
            }
            return sum;
        }

        /** From the last 1 before the joint to the first 1 behind it. */
        private static boolean runsAreRight(String bits, String next) {
            int end = bits.length() - next.length() + next.indexOf('1');
            int last = 0;
            for (int k = 1; k <= end; k++) {
                if (bits.charAt(k) == '1') {
                    if (k - last - 1 < 2 || k - last - 1 > 10) {
                        return false;
                    }
                    last = k;
                }
            }
            return true;
        }

        private int choice(boolean mockToo) {
            int best = -1;
            for (int k = 0; k < 4; k++) {
                if (may[k] && (mockToo || !mocks[k]) && (best < 0 || far[k] < far[best])) {
                    best = k;
                }
            }
            return best;
        }

        int best() {
            int best = choice(false);
            best = best < 0 ? choice(true) : best;
            return best < 0 ? -1 : JOINTS[best];
        }

        boolean tie() {
            int best = choice(false);
            for (int k = best + 1; best >= 0 && k < 4; k++) {
                if (may[k] && !mocks[k] && far[k] == far[best]) {
                    return true;
                }
            }
            return false;
        }

        boolean avoided() {
            return choice(true) != choice(false);
        }
    }

    private static String beside(CompactDisc x, int section) {
        StringBuilder bits = new StringBuilder();
        for (int r = 2; r < 98; r++) {
            bits.append(x.read(x.word(98 * section + r, 0)) / 64 % 2);
        }
        return bits.toString();
    }

    private static void sectionsTell() {
        edge("Frame r of a section, 2 .. 97, has a byte beside: 128 if the section is a PAUSE, and 64 more if bit r - 2 of Q is 1");
        CompactDisc x = new CompactDisc();
        x.fill(24 * 100, 1);
        x.entry(0, 15, 99, 0);
        x.entry(1, 8, 10, 99);
        x.begin(399999);
        x.press();
        String[] want = {"1111000110011001" + "00000000" + "000000000000000000000001" + "00000000" + "100010000101001100100100",
            "1000000100010000" + "10011001" + "000000000000000000000000" + "00000000" + "100010000101001100100101"};
        for (int section = 0; section < 2; section++) {
            String bits = want[section] + PlainModel.checkBits(want[section]);
            for (int r = 2; r < 98; r++) {
                int b = (section == 0 ? 128 : 0) + (bits.charAt(r - 2) == '1' ? 64 : 0);
                due("section " + section + ", frame " + r, x.word(98 * section + r, 0), x.spell(b));
            }
        }
        edge("(both with the highest power first; coefficients modulo 2), each turned");
        x = new CompactDisc();
        x.feed(0, 1);
        x.press();
        // The rest of 00000001 00000001 00000001 and 56 zeros, times x^16, worked out by hand: 1100001110110101.
        due("checks", beside(x, 0).substring(80).equals("0011110001001010"), true);
    }

    /** What q() tells of a section of a disc with these entries, {section, control, track, index} each. */
    private static CompactDisc told(int frames, int[]... entries) {
        CompactDisc x = new CompactDisc();
        x.fill(24 * (frames - 111), 1);
        for (int[] e : entries) {
            x.entry(e[0], e[1], e[2], e[3]);
        }
        x.press();
        x.play(0, 0, 0);
        return x;
    }

    private static void entriesHold() {
        edge("for a section that with the greatest section that is not behind it");
        CompactDisc x = told(392, new int[] {2, 2, 22, 2}, new int[] {1, 1, 11, 1});
        int[] tracks = {1, 11, 22, 22};
        for (int s = 0; s < 4; s++) {
            due("section " + s, x.q(s, 2), tracks[s]);
        }
        edge("of several the one told last");
        x = told(392, new int[] {1, 1, 11, 1}, new int[] {3, 3, 33, 3}, new int[] {1, 2, 12, 2}, new int[] {0, 4, 44, 4});
        int[] last = {44, 12, 12, 33};
        for (int s = 0; s < 4; s++) {
            due("section " + s, x.q(s, 2), last[s]);
        }
        edge("before all of them control 0, track 1, index 1");
        x = told(196, new int[] {1, 1, 11, 0});
        due("control", x.q(0, 1), 0);
        due("track", x.q(0, 2), 1);
        due("index", x.q(0, 3), 1);
        due("no pause", x.q(0, 6), 0);
        x = told(196, new int[] {9, 9, 99, 9});
        due("an entry behind the end", x.q(1, 2), 1);
        edge("A section with index 0 is a pause");
        x = told(196, new int[] {0, 0, 1, 0}, new int[] {1, 0, 1, 1});
        due("index 0", x.q(0, 6), 96);
        due("index 1", x.q(1, 6), 0);
        x = told(196, new int[] {0, 0, 1, 99});
        due("index 99", x.q(0, 6), 0);
    }

    private static void times() {
        edge("if its index is above 0, how many sections before it, without a gap, have the same track and an index above 0");
        int[][] goesOn = {{0, 0, 7, 1}, {1, 0, 7, 2}, {2, 0, 7, 99}, {3, 0, 7, 1}};
        timesAre(told(392, goesOn), 0, 1, 2, 3);
        timesAre(told(392), 0, 1, 2, 3);
        timesAre(told(392, new int[] {2, 5, 1, 4}), 0, 1, 2, 3);
        timesAre(told(392, new int[] {0, 0, 7, 1}, new int[] {1, 0, 8, 1}, new int[] {2, 0, 7, 1}), 0, 0, 0, 1);
        timesAre(told(392, new int[] {1, 0, 1, 0}, new int[] {2, 0, 1, 1}), 0, 1, 0, 1);
        edge("if it is a pause, how many there are from it up to the next one that is none or has another track (itself counted)");
        timesAre(told(392, new int[] {0, 0, 7, 0}, new int[] {2, 0, 7, 1}), 2, 1, 0, 1);
        timesAre(told(392, new int[] {0, 0, 7, 0}, new int[] {1, 0, 8, 0}, new int[] {3, 0, 8, 1}), 1, 2, 1, 0);
        timesAre(told(392, new int[] {0, 0, 7, 0}, new int[] {1, 3, 7, 0}, new int[] {3, 0, 7, 1}), 3, 2, 1, 0);
        edge("or up to the end of the disc");
        timesAre(told(392, new int[] {0, 0, 7, 0}), 4, 3, 2, 1);
        timesAre(told(393, new int[] {0, 0, 7, 0}), 5, 4, 3, 2);
        timesAre(told(490, new int[] {0, 0, 7, 0}), 5, 4, 3, 2);
        timesAre(told(392, new int[] {0, 0, 7, 0}, new int[] {4, 0, 7, 1}), 4, 3, 2, 1);
        timesAre(told(393, new int[] {0, 0, 7, 0}, new int[] {4, 0, 7, 1}), 4, 3, 2, 1);
        CompactDisc x = told(599, new int[] {0, 0, 7, 0});
        due("the longest disc, first", x.q(0, 4), 7);
        due("the longest disc, its last whole one", x.q(5, 4), 2);
        x = told(599);
        due("the longest disc without entries", x.q(5, 4), 5);
    }

    private static void timesAre(CompactDisc x, int... want) {
        for (int s = 0; s < want.length; s++) {
            due("time of section " + s, x.q(s, 4), want[s]);
        }
    }

    /** Draws, in the frame that begins at a place, the word beside that begins or goes on with a section. */
    private static void drawBeside(CompactDisc x, int start, boolean first) {
        DiscHand.draw(x, start + 27, first ? 0b00100000000001 : 0b00000000010010, 14);
    }

    private static void framesFound() {
        edge("the first one begins at the first place of the disc where the sign stands");
        for (int p : new int[] {0, 1, 31, 32, 33, 587, 588, 40000}) {
            CompactDisc x = DiscHand.blank(1);
            DiscHand.drawSign(x, p);
            drawBeside(x, p, true);
            drawBeside(x, p + 588, false);
            x.play(0, 0, 0);
            due("frames from " + p, x.told(6), (65856 - p + 587) / 588);
            due("a section from " + p, x.told(7), 1);
        }
        CompactDisc x = DiscHand.blank(1);
        DiscHand.drawSign(x, 900);
        DiscHand.drawSign(x, 700);
        x.play(0, 0, 0);
        due("the lesser of two", x.told(6), (65856 - 700 + 587) / 588);
        x = DiscHand.blank(1);
        DiscHand.drawSign(x, 65832);
        x.play(0, 0, 20);
        due("the last place", x.told(6), 1);
        due("nothing is sure", x.told(3), 24);
        edge("(at 0 if it stands nowhere)");
        x.slip(65855, -1);
        x.play(0, 0, 20);
        due("its last bit went", x.told(6), 112);
        x = DiscHand.blank(1);
        drawBeside(x, 0, true);
        drawBeside(x, 588, false);
        x.play(0, 0, 20);
        due("no sign at all", x.told(6), 112);
        due("from 0 on", x.told(7), 1);
    }

    /** Whether the frame behind one at 0 is found at a place, with signs at others. */
    private static boolean follows(int window, int place, int... signs) {
        CompactDisc x = DiscHand.blank(1);
        DiscHand.drawSign(x, 0);
        for (int p : signs) {
            DiscHand.draw(x, p, DiscHand.SIGN & ~(x.bits(p) >>> 8), 24);
        }
        due("signs", x.signs() > signs.length, true);
        // No sign is near the two frames behind it, so that a section is found there if it is the one.
        drawBeside(x, place + 588, true);
        drawBeside(x, place + 1176, false);
        x.play(0, 0, window);
        return x.told(7) == 1;
    }

    private static void nextFrames() {
        edge("at the place from p + 588 - W to p + 588 + W where the sign stands");
        for (int w : new int[] {0, 1, 7, 20}) {
            due("before, W = " + w, follows(w, 588 - w, 588 - w), true);
            due("behind, W = " + w, follows(w, 588 + w, 588 + w), true);
            if (w < 20) {
                due("a bit too far before, W = " + w, follows(w, 588 - w - 1, 588 - w - 1), false);
                due("a bit too far behind, W = " + w, follows(w, 588 + w + 1, 588 + w + 1), false);
            }
        }
        due("21 before", follows(20, 567, 567), false);
        due("21 behind", follows(20, 609, 609), false);
        edge("that is nearest to p + 588 (of two the lesser one)");
        due("of two as near, before", follows(20, 588 - 15, 588 - 15, 588 + 15), true);
        due("of two as near, not behind", follows(20, 588 + 15, 588 - 15, 588 + 15), false);
        due("nearer behind", follows(20, 588 + 14, 588 - 15, 588 + 14), true);
        due("nearer before", follows(20, 588 - 14, 588 - 14, 588 + 15), true);
        due("at it, with one before", follows(20, 588, 588 - 11, 588), true);
        due("at it, with one behind", follows(20, 588, 588, 588 + 11), true);
        due("the nearer of two before", follows(20, 588 - 9, 588 - 20, 588 - 9), true);
        due("the nearer of two behind", follows(20, 588 + 9, 588 + 9, 588 + 20), true);
        edge("or, if there is none, at p + 588");
        due("no sign", follows(20, 588), true);
        due("signs out of the window", follows(5, 588, 588 - 20, 588 + 20), true);
    }

    private static void windows() {
        edge("p being where the one before does");
        // Three slips of 15 bits: each is in the window from the frame before, all together are not.
        CompactDisc x = DiscHand.pressed(240, 8);
        for (int f : new int[] {30, 60, 90}) {
            x.slip(588 * f + 15 * (f / 30 - 1), 15);
        }
        due("one after the other", x.play(1, 1, 15), 0);
        due("not one", x.play(1, 1, 14) > 0, true);
        x = DiscHand.pressed(240, 8);
        for (int f : new int[] {30, 60, 90}) {
            x.slip(588 * f - 15 * (f / 30 - 1) - 15, -15);
        }
        due("before, one after the other", x.play(1, 1, 15), 0);
        due("before, not one", x.play(1, 1, 14) > 0, true);
    }

    private static void discEnds() {
        edge("as long as there is a bit of the disc there");
        int[][] slips = {{0, 121}, {-1, 121}, {-587, 121}, {-588, 120}, {-589, 120}, {1, 122}, {588, 122}, {589, 123}};
        for (int[] s : slips) {
            CompactDisc x = DiscHand.pressed(240, 8);
            x.slip(s[0] < 0 ? x.length() + s[0] : x.length(), s[0]);
            for (int window : new int[] {0, 20}) {
                x.play(0, 0, window);
                due(s[0] + " bits at the end", x.told(6), s[1]);
            }
        }
        CompactDisc x = DiscHand.pressed(11712, 8);
        for (int k = 0; k < 13; k++) {
            x.slip(x.length(), k < 12 ? 600 : 588);
        }
        x.play(2, 2, 20);
        due("the most bits", x.told(6), 613);
        due("all sure", x.told(3), 0);
        x.scratch(0, 600);
        // Signs at the nearest place of the widest window make the most frames.
        for (int p = 0; p + 24 <= 40000; p += 568) {
            DiscHand.drawSign(x, p);
        }
        x.play(2, 2, 20);
        due("frames close together", x.told(6), 71 + (360000 - 70 * 568 - 1) / 588);
        edge("(Bits behind its end are read as 0.)");
        x = DiscHand.pressed(240, 8);
        x.slip(120 * 588 + 30, -600);
        x.play(0, 0, 0);
        due("words of the cut frame", x.told(0), 32);
        due("it was found", x.told(6), 121);
    }

    private static void innerWordsPlayed() {
        edge("A word that is read and is none of the 256 is a MARKED byte");
        CompactDisc x = DiscHand.pressed(240, 8);
        for (int m = 1; m <= 6; m++) {
            DiscHand.unspell(x, 40, m < 4 ? 5 * m : 5 * m + 1);
            x.play(0, 0, 0);
            due(m + " words", x.told(0), m);
            due(m + " marks", x.inner(40), m <= 4 ? m : -2);
            due(m + " marks, words failed", x.told(1), m <= 4 ? 1 : 2);
        }
        for (int i = 0; i < 32; i++) {
            x = DiscHand.pressed(240, 8);
            DiscHand.unspell(x, 40, i);
            x.play(0, 0, 0);
            due("place " + i, x.inner(40), 1);
            due("place " + i + ", the words beside it", x.inner(39) + x.inner(41), 0);
        }
        x = DiscHand.pressed(240, 8);
        DiscHand.unspell(x, 0, 0);
        DiscHand.unspell(x, 119, 31);
        x.play(0, 0, 0);
        due("the first inner word", x.inner(0), 1);
        due("the last that is whole", x.inner(119), 1);
        DiscHand.failInner(x, 0);
        x.play(0, 0, 0);
        due("the first fails", x.inner(0), -2);
        due("the first outer word notices it", x.outer(0), 1);
        edge("r being at most the reach, and m + 2 r at most 4");
        for (int[] mr : new int[][] {{0, 1}, {1, 1}, {2, 1}, {3, 1}, {0, 2}, {1, 2}}) {
            x = DiscHand.pressed(240, 8);
            for (int k = 0; k < mr[0]; k++) {
                DiscHand.unspell(x, 40, 3 + 4 * k);
            }
            for (int k = 0; k < mr[1]; k++) {
                DiscHand.setPlace(x, 40, 20 + 10 * k, DiscHand.place(x, 40, 20 + 10 * k) ^ 99);
            }
            for (int reach = 0; reach <= 2; reach++) {
                x.play(reach, 0, 0);
                boolean can = mr[1] <= reach && mr[0] + 2 * mr[1] <= 4;
                due("m = " + mr[0] + ", r = " + mr[1] + ", reach " + reach, x.inner(40), can ? mr[0] + mr[1] : -2);
            }
        }
        edge("a place that would be on a frame that there is not is marked and 0");
        x = DiscHand.pressed(240, 8);
        x.play(2, 2, 0);
        due("the last inner word has 16 marks", x.inner(120), -2);
        due("the one before has none", x.inner(119), 0);
        edge("if it fails, all its 32 places are marked; otherwise none is");
        x = DiscHand.pressed(480, 8);
        DiscHand.failInner(x, 60);
        x.play(2, 0, 0);
        for (int v = 0; v < 22; v++) {
            // Inner word 60 has place i of outer word 60 - 4 i.
            due("outer word " + v, x.outer(v), v % 4 == 0 ? 1 : 0);
        }
    }

    private static CompactDisc playedWith(CompactDisc x, int outerReach) {
        x.play(2, outerReach, 0);
        return x;
    }

    private static void outerWordsPlayed() {
        edge("if it fails with more than 4 marks, its marks stay");
        // Outer word 8 meets all five; any other one four at most, as places 0 and 27 are the ends of the row.
        CompactDisc x = DiscHand.pressed(480, 8);
        for (int i : new int[] {0, 5, 10, 20}) {
            DiscHand.failInner(x, 8 + 4 * i);
        }
        playedWith(x, 0);
        due("four marks", x.outer(8), 4);
        due("all are sure", x.told(3), 0);
        DiscHand.failInner(x, 8 + 4 * 27);
        playedWith(x, 2);
        due("five marks", x.outer(8), -2);
        due("five bytes are not sure", x.told(3), 5);
        // Places 0, 5 and 10 are of frame 6, 20 and 27 of frame 8; the word of place 5 was none.
        int[] lost = {24 * 6, 24 * 6 + 17, 24 * 6 + 18, 24 * 8 + 20, 24 * 8 + 23};
        for (int k = 0; k < 5; k++) {
            due("byte " + lost[k], x.isSure(lost[k]), false);
            due("byte " + lost[k] + " as it was read", x.played(lost[k]), k == 1 ? 0 : x.streamAt(lost[k]));
        }
        due("a neighbour", x.isSure(24 * 6 + 1), true);
        due("words before", x.outer(4), 4);
        due("words behind", x.outer(12), 4);
        edge("its marks stay");
        x = DiscHand.pressed(240, 8);
        for (int i : new int[] {0, 12, 13, 15, 27}) {
            DiscHand.failInner(x, 8 + 4 * i);
        }
        playedWith(x, 2);
        due("three of five marks are checks", x.told(3), 2);
    }

    private static void outerWordsLost() {
        edge("if it fails otherwise, all its 28 places are marked");
        int[][] cases = {{0, 1, 0, -2}, {0, 1, 1, 1}, {0, 1, 2, 1}, {0, 2, 0, -2}, {0, 2, 1, -2}, {0, 2, 2, 2},
            {1, 1, 0, -2}, {1, 1, 1, 2}, {2, 1, 0, -2}, {2, 1, 1, 3}, {3, 1, 2, -2}, {1, 2, 2, -2}, {3, 0, 0, 3},
            {4, 0, 0, 4}};
        for (int[] c : cases) {
            CompactDisc x = DiscHand.pressed(240, 8);
            for (int k = 0; k < c[0]; k++) {
                DiscHand.failInner(x, 8 + 4 * (3 + 2 * k));
            }
            for (int k = 0; k < c[1]; k++) {
                DiscHand.spoilOuter(x, 8, 17 + 9 * k, 55 + k);
            }
            playedWith(x, c[2]);
            String name = c[0] + " marks, " + c[1] + " wrong, reach " + c[2];
            due(name + ", inner words failed", x.told(1), c[0] + 1);
            due(name, x.outer(8), c[3]);
            due(name + ", not sure", x.told(3), c[3] == -2 ? 24 : 0);
            for (int i = 0; i < 24; i++) {
                boolean even = i / 4 % 2 == 0;
                due(name + ", frame 6, byte " + i, x.isSure(24 * 6 + i), !even || c[3] != -2);
                due(name + ", frame 8, byte " + i, x.isSure(24 * 8 + i), even || c[3] != -2);
            }
            edge("else none is");
            due(name + ", its neighbour", x.outer(9), 0);
            edge("if it fails otherwise, all its 28 places are marked");
        }
        edge("A word that fails stays as it was");
        CompactDisc x = DiscHand.pressed(240, 8);
        DiscHand.spoilOuter(x, 8, 16, 1);
        playedWith(x, 0);
        // Place 16 is the high byte of sample 1 of the left side of frame 8.
        due("its wrong byte", x.played(24 * 8 + 4), x.streamAt(24 * 8 + 4) ^ 1);
        due("a right one", x.played(24 * 8 + 5), x.streamAt(24 * 8 + 5));
        edge("how many places were marked or differed");
        playedWith(x, 1);
        due("mended", x.played(24 * 8 + 4), x.streamAt(24 * 8 + 4));
        due("no inner word noticed it", x.inner(8 + 64), 0);
    }

    private static void wordsThatThereAreNot() {
        edge("bytes of outer words that there are not are marked and 0");
        CompactDisc x = new CompactDisc();
        for (int k = 0; k < 30; k++) {
            x.feed(-1L, 8);
        }
        x.press();
        for (int k = 0; k < 114; k++) {
            x.slip(6 * 588, -600);
        }
        due("six frames are left", x.length(), 6 * 588);
        // Place 0 of the outer words 2, 3 and 4 came; that of 5 would be on frame 6.
        due("all but three are lost", x.play(2, 2, 0), 237);
        due("found", x.told(6), 6);
        for (int i = 0; i < 240; i++) {
            boolean came = i == 0 || i == 24 || i == 48;
            due("byte " + i, x.played(i), came ? 255 : 0);
            if (came || i % 3 == 1) {
                due("byte " + i + " is sure", x.isSure(i), came);
            }
        }
        edge("places of inner words that there are not are marked and 0");
        x = DiscHand.pressed(240, 8);
        x.play(0, 0, 0);
        due("four marks", x.outer(27), 4);
        due("five marks", x.outer(28), -2);
    }

    /** A stream of six frames, all 0 but for two samples of the left side. */
    private static CompactDisc between(int before, int next) {
        CompactDisc x = new CompactDisc();
        for (int i = 0; i < 36; i++) {
            int sample = i == 11 ? before : i == 13 ? next : 0;
            x.feed(((long) sample & 0xffff) << 16, 4);
        }
        x.press();
        // All of outer word 4: the even samples of frame 2, of which 12 is the first, and the odd ones of frame 4.
        DiscHand.spoilOuter(x, 4, 20, 9);
        x.play(0, 0, 0);
        return x;
    }

    private static void meansAreCutDown() {
        edge("the mean of what was heard before (0 at first) and that one, cut down");
        int[][] pairs = {{0, 0, 0}, {0, 1, 0}, {1, 0, 0}, {1, 1, 1}, {0, 2, 1}, {0, 3, 1}, {0, -1, -1}, {-1, 0, -1}, {-1, -1, -1},
            {0, -2, -1}, {0, -3, -2}, {-5, 2, -2}, {5, -2, 1}, {32767, 32767, 32767}, {32767, 32766, 32766},
            {-32768, -32768, -32768}, {-32768, -32767, -32768}, {32767, -32768, -1}, {-32768, 32767, -1}, {32767, -32767, 0}};
        for (int[] p : pairs) {
            CompactDisc x = between(p[0], p[1]);
            due("before", x.heard(11, false), p[0]);
            due("of " + p[0] + " and " + p[1], x.heard(12, false), p[2]);
            due("next", x.heard(13, false), p[1]);
            due("the other side", x.heard(12, true), 0);
        }
        edge("4 how many samples of both sides were hidden");
        CompactDisc x = between(1, 2);
        due("six and six", x.told(4), 12);
        edge("It is sure if both its bytes are");
        for (int low = 0; low < 2; low++) {
            x = DiscHand.pressed(240, 8);
            for (int i : new int[] {low, 12, 13, 14, 27}) {
                DiscHand.failInner(x, 8 + 4 * i);
            }
            x.play(0, 0, 0);
            due("one byte is not", x.isSure(24 * 6 + low), false);
            due("the other is", x.isSure(24 * 6 + 1 - low), true);
            int before = (short) (x.streamAt(140) << 8 | x.streamAt(141));
            int next = (short) (x.streamAt(148) << 8 | x.streamAt(149));
            due("hidden", x.heard(36, false), Math.floorDiv(before + next, 2));
            due("so many", x.told(4), 2);
        }
    }

    private static int sampleOf(CompactDisc x, int i, int side) {
        return (short) (x.streamAt(4 * i + 2 * side) << 8 | x.streamAt(4 * i + 2 * side + 1));
    }

    private static void hidingRow() {
        edge("any other what was heard before");
        // Outer words 4 and 6 are lost, so all of frame 4 is, the even half of frame 2 and the odd half of frame 6.
        CompactDisc x = DiscHand.pressed(240, 8);
        DiscHand.spoilOuter(x, 4, 20, 9);
        DiscHand.spoilOuter(x, 6, 20, 9);
        x.play(0, 0, 0);
        due("hidden", x.told(4), 24);
        for (int side = 0; side < 2; side++) {
            boolean right = side == 1;
            for (int i = 24; i < 29; i++) {
                due("held " + i, x.heard(i, right), sampleOf(x, 23, side));
            }
            int mean = Math.floorDiv(sampleOf(x, 23, side) + sampleOf(x, 30, side), 2);
            due("before a sure one", x.heard(29, right), mean);
            due("the sure one", x.heard(30, right), sampleOf(x, 30, side));
            due("one between two", x.heard(12, right), Math.floorDiv(sampleOf(x, 11, side) + sampleOf(x, 13, side), 2));
            due("sure", x.heard(13, right), sampleOf(x, 13, side));
        }
        edge("0 at first");
        x = DiscHand.pressed(240, 8);
        DiscHand.spoilOuter(x, 2, 20, 9);
        x.play(0, 0, 0);
        due("the very first", x.heard(0, false), Math.floorDiv(sampleOf(x, 1, 0), 2));
        due("and on the right", x.heard(0, true), Math.floorDiv(sampleOf(x, 1, 1), 2));
        DiscHand.spoilOuter(x, 0, 20, 9);
        x.play(0, 0, 0);
        due("with no sure next", x.heard(0, false), 0);
        due("up to the end of the frame", x.heard(4, true), 0);
        due("then a mean with 0", x.heard(5, true), Math.floorDiv(sampleOf(x, 6, 1), 2));
        edge("has a next one that is sure");
        x = DiscHand.pressed(240, 8);
        DiscHand.spoilOuter(x, 9, 20, 9);
        x.play(0, 0, 0);
        due("the very last has no next", x.heard(59, false), sampleOf(x, 58, 0));
        due("and on the right", x.heard(59, true), sampleOf(x, 58, 1));
        due("the last but two", x.heard(57, true), Math.floorDiv(sampleOf(x, 56, 1) + sampleOf(x, 58, 1), 2));
    }

    private static void lastCalls() {
        edge("An object is used for at most 512 calls after it has been made");
        CompactDisc x = new CompactDisc();
        for (int k = 1; k < 512; k++) {
            due("call " + k, x.feed(k, 8), 8 * k);
        }
        due("call 512", x.streamAt(8 * 511 - 1), 511 & 255);
        x = new CompactDisc();
        x.fill(700, 3);
        for (int k = 0; k < 127; k++) {
            due("press", x.press(), 141);
            due("spoil", x.scratch(30 + k % 50, 15), 15 * 588);
            due("play", x.play(k % 3, k % 2, k % 21), 0);
            due("slip", x.slip(k, 600), 141 * 588 + 600);
        }
        due("call 510", x.press(), 141);
        due("call 511", x.play(2, 2, 20), 0);
        due("call 512", x.played(699), DiscHand.pressed(700, 3).streamAt(699));
    }
}
