import java.util.Arrays;

/**
 * A compact disc, bit by bit: a stream of bytes is pressed, the disc is spoiled, played and mended.
 *
 * <p>Everything an object needs is made in its constructor and used again by every call, so that a
 * long run of calls takes no more room than a short one.
 */
public final class CompactDisc {
    /** There is none, or it cannot be done. */
    public static final int NONE = -1;
    /** There is no such sample. */
    public static final int SILENT = 65536;

    private static final int FAILED = -2;
    private static final int NO_BALANCE = -1000000;

    private static final int MOST_BYTES = 11712;
    private static final int MOST_BITS = 360000;
    private static final int MOST_BEGIN = 400000;
    private static final int MOST_ENTRIES = 20;
    private static final int MOST_SLIP = 600;
    private static final int MOST_SPOILED = 600;
    private static final int MOST_WINDOW = 20;
    private static final int MOST_BURST = 200;
    private static final int MOST_REACH = 2;

    private static final int FRAME_BYTES = 24;
    private static final int FRAME_SAMPLES = 6;
    private static final int MOST_SAMPLES = MOST_BYTES / 4;
    /** The delays of both interleavings spread the stream's last frame over so many more. */
    private static final int MORE_FRAMES = 111;
    /** Frames found stand at least 588 - 20 bits apart, so that even 360000 bits hold no more than 634. */
    private static final int MOST_FRAMES = 640;

    private static final int FRAME_BITS = 588;
    private static final int SIGN = 0b100000000001000000000010;
    private static final int SIGN_BITS = 24;
    private static final int WORD_BITS = 14;
    private static final int JOINT_BITS = 3;
    private static final int STEP_BITS = WORD_BITS + JOINT_BITS;
    private static final int FIRST_MARK = 0b00100000000001;
    private static final int SECOND_MARK = 0b00000000010010;

    private static final int INNER_SIZE = 32;
    private static final int OUTER_SIZE = 28;
    private static final int INNER_CHECK = 28;
    private static final int OUTER_CHECK = 12;
    private static final int DELAY = 4;
    private static final int ALL_OUTER = (1 << OUTER_SIZE) - 1;
    private static final int EVEN_PLACES = 0x55555555;

    private static final int SECTION_FRAMES = 98;
    private static final int PAUSE_BIT = 128;
    private static final int Q_BIT = 64;

    private final byte[] stream;
    private int fed;
    private final Contents contents;
    private final Speller speller;
    private final Code innerCode;
    private final Code outerCode;
    private final Groove groove;
    private final Presser presser;
    private final Player player;
    private final byte[] bench;
    private int benchMarks;

    public CompactDisc() {
        Field field = new Field();
        Rows rows = new Rows();
        stream = new byte[MOST_BYTES];
        contents = new Contents();
        speller = new Speller();
        innerCode = new Code(field, INNER_SIZE, INNER_CHECK);
        outerCode = new Code(field, OUTER_SIZE, OUTER_CHECK);
        groove = new Groove();
        presser = new Presser(rows, groove, speller, innerCode, outerCode, contents);
        player = new Player(rows, groove, speller, innerCode, outerCode);
        bench = new byte[INNER_SIZE];
    }

    // ---- the stream

    public int feed(long w, int n) {
        if (n < 1 || n > 8 || n > MOST_BYTES - fed) {
            return NONE;
        }
        for (int k = n - 1; k >= 0; k--) {
            addByte((int) (w >>> (8 * k)));
        }
        return fed;
    }

    public int fill(int n, int seed) {
        if (n < 0 || n > MOST_BYTES - fed) {
            return NONE;
        }
        int z = seed;
        for (int k = 0; k < n; k++) {
            z = nextNoise(z);
            addByte(z >>> 24);
        }
        return fed;
    }

    private void addByte(int b) {
        if (fed >= 0 && fed < stream.length) {
            stream[fed] = (byte) b;
            fed++;
        }
    }

    private static int nextNoise(int z) {
        return z * 1664525 + 1013904223;
    }

    public int wipe() {
        int had = fed;
        fed = 0;
        return had;
    }

    public int streamAt(int i) {
        return i >= 0 && i < fed && i < stream.length ? stream[i] & 255 : NONE;
    }

    // ---- what is told beside

    public boolean begin(int section) {
        if (section < 0 || section > MOST_BEGIN) {
            return false;
        }
        contents.startAt(section);
        return true;
    }

    public int entry(int section, int control, int track, int index) {
        boolean known = section >= 0 && section <= 9 && control >= 0 && control <= 15
                && track >= 1 && track <= 99 && index >= 0 && index <= 99;
        return known ? contents.add(section, control, track, index) : NONE;
    }

    public int plain() {
        return contents.clear();
    }

    // ---- the disc

    public int press() {
        player.forget();
        return presser.pressStream(stream, fed);
    }

    public int frames() {
        return groove.framesPressed();
    }

    public int length() {
        return groove.size();
    }

    public int bits(int i) {
        return groove.has(i) ? groove.peek(i) : 0;
    }

    public int word(int frame, int k) {
        if (!groove.wasPressed(frame) || k < 0 || k > INNER_SIZE) {
            return NONE;
        }
        return groove.wordAt(FRAME_BITS * frame, k);
    }

    public int joint(int frame, int k) {
        if (!groove.wasPressed(frame) || k < 0 || k > INNER_SIZE + 1) {
            return NONE;
        }
        return groove.peek(FRAME_BITS * frame + SIGN_BITS + STEP_BITS * k) >>> (32 - JOINT_BITS);
    }

    public int balance(int n) {
        return n < 0 || n > groove.size() ? NO_BALANCE : groove.balanceBehind(n);
    }

    public int run(boolean longest) {
        return groove.extremeRun(longest);
    }

    public int signs() {
        return groove.countSigns();
    }

    public int signAt(int i) {
        return groove.findSign(i);
    }

    // ---- what spoils it

    public boolean flip(int i) {
        if (!groove.has(i)) {
            return false;
        }
        groove.turn(i);
        return true;
    }

    public int scratch(int frame, int many) {
        if (!canSpoil(frame, many)) {
            return NONE;
        }
        int from = FRAME_BITS * frame;
        int to = Math.min(groove.size(), from + FRAME_BITS * many);
        groove.blank(from, to);
        return to - from;
    }

    public int noise(int frame, int many, int seed) {
        if (!canSpoil(frame, many)) {
            return NONE;
        }
        int from = FRAME_BITS * frame;
        int to = Math.min(groove.size(), from + FRAME_BITS * many);
        int z = seed;
        int turned = 0;
        for (int i = from; i < to; i++) {
            z = nextNoise(z);
            if (z < 0) {
                groove.turn(i);
                turned++;
            }
        }
        return turned;
    }

    private boolean canSpoil(int frame, int many) {
        return frame >= 0 && (long) FRAME_BITS * frame < groove.size() && many >= 0 && many <= MOST_SPOILED;
    }

    public int slip(int i, int n) {
        if (groove.framesPressed() == 0 || i < 0 || i > groove.size() || n < -MOST_SLIP || n > MOST_SLIP
                || n > MOST_BITS - groove.size()) {
            return NONE;
        }
        if (n >= 0) {
            groove.insertZeros(i, n);
        } else {
            groove.remove(i, -n);
        }
        return groove.size();
    }

    // ---- playing

    public int play(int inner, int outer, int window) {
        if (groove.framesPressed() == 0 || !isReach(inner) || !isReach(outer) || window < 0 || window > MOST_WINDOW) {
            return NONE;
        }
        return player.perform(inner, outer, window);
    }

    private static boolean isReach(int reach) {
        return reach >= 0 && reach <= MOST_REACH;
    }

    public int played(int i) {
        return player.hasByte(i) ? player.byteOf(i) : NONE;
    }

    public boolean isSure(int i) {
        return player.hasByte(i) && player.sureOf(i);
    }

    public int heard(int i, boolean right) {
        return player.sampleHeard(i, right);
    }

    public int inner(int w) {
        return player.innerFate(w);
    }

    public int outer(int v) {
        return player.outerFate(v);
    }

    public int told(int what) {
        return player.tally(what);
    }

    public int q(int s, int what) {
        return player.sectionTells(s, what);
    }

    public int burst(int many) {
        if (many < 1 || many > MOST_BURST) {
            return NONE;
        }
        // An inner word lies on two frames, so it is met from many + 1 numbers on; those of one outer word are 4 apart.
        return Math.min(OUTER_SIZE, many / DELAY + 1);
    }

    // ---- words by themselves, and the bench

    public int spell(int b) {
        return speller.wordOf(b);
    }

    public int read(int word) {
        return speller.byteOf(word);
    }

    public int put(int i, int b) {
        if (!isBench(i) || b < 0 || b > 255) {
            return NONE;
        }
        int was = bench[i] & 255;
        bench[i] = (byte) b;
        benchMarks &= ~(1 << i);
        return was;
    }

    public boolean mark(int i, boolean is) {
        if (!isBench(i)) {
            return false;
        }
        boolean was = (benchMarks >>> i & 1) == 1;
        benchMarks = is ? benchMarks | 1 << i : benchMarks & ~(1 << i);
        return was;
    }

    public int at(int i) {
        return isBench(i) ? bench[i] & 255 : NONE;
    }

    private boolean isBench(int i) {
        return i >= 0 && i < bench.length;
    }

    private Code codeOf(boolean inner) {
        return inner ? innerCode : outerCode;
    }

    public void seal(boolean inner) {
        Code code = codeOf(inner);
        code.settle(bench, 0);
        benchMarks &= ~code.allPlaces();
    }

    public int syndrome(boolean inner, int j) {
        return j < 0 || j > 3 ? NONE : codeOf(inner).sumOf(bench, 0, j);
    }

    public int mend(boolean inner, int reach) {
        if (!isReach(reach)) {
            return NONE;
        }
        Code code = codeOf(inner);
        int fate = code.heal(bench, 0, benchMarks, reach);
        if (fate != FAILED) {
            benchMarks &= ~code.allPlaces();
        }
        return fate;
    }

    /** The field of 256 bytes; every argument is cut to a byte so that no table is left. */
    private static final class Field {
        private final int[] powers = new int[510];
        private final int[] logs = new int[256];

        Field() {
            int x = 1;
            for (int i = 0; i < 255; i++) {
                powers[i] = x;
                // A second turn spares the sum of two logarithms its rest by 255.
                powers[i + 255] = x;
                logs[x & 255] = i;
                x = twice(x);
            }
        }

        static int twice(int x) {
            int y = x << 1;
            return y > 255 ? y ^ 285 : y;
        }

        int power(int e) {
            return e >= 0 && e < powers.length ? powers[e] : 0;
        }

        int log(int a) {
            return logs[a & 255];
        }

        int times(int a, int b) {
            return a == 0 || b == 0 ? 0 : powers[logs[a & 255] + logs[b & 255]];
        }

        int over(int a, int b) {
            return a == 0 || b == 0 ? 0 : powers[logs[a & 255] + 255 - logs[b & 255]];
        }
    }

    /**
     * One of the two codes. A place stands for the byte g^(n - 1 - place), its locator; a polynomial with
     * the locators of some places as roots takes all that these places bear out of the four sums.
     */
    private static final class Code {
        private final Field field;
        private final int size;
        private final int firstCheck;
        private final int[] sums = new int[4];
        private final int[] spots = new int[4];
        private int spotted;
        private final int[] locator = new int[5];
        private final int[] rest = new int[4];

        Code(Field field, int size, int firstCheck) {
            this.field = field;
            this.size = size;
            this.firstCheck = firstCheck;
        }

        int allPlaces() {
            return size >= 32 ? -1 : (1 << size) - 1;
        }

        private boolean fits(byte[] cells, int from) {
            return cells != null && from >= 0 && from <= cells.length - size;
        }

        int sumOf(byte[] cells, int from, int j) {
            sumUp(cells, from);
            return j >= 0 && j < sums.length ? sums[j] : NONE;
        }

        void settle(byte[] cells, int from) {
            sumUp(cells, from);
            spotted = 0;
            for (int k = 0; k < 4; k++) {
                addSpot(firstCheck + k);
            }
            correct(cells, from);
        }

        int heal(byte[] cells, int from, int marks, int reach) {
            int marked = Integer.bitCount(marks & allPlaces());
            if (marked > 4) {
                return FAILED;
            }
            sumUp(cells, from);
            spotted = 0;
            for (int i = 0; i < size; i++) {
                if ((marks >>> i & 1) == 1) {
                    addSpot(i);
                }
            }
            if (!locate(marks, Math.min(reach, (4 - marked) / 2))) {
                return FAILED;
            }
            correct(cells, from);
            return spotted;
        }

        private void addSpot(int place) {
            if (spotted >= 0 && spotted < spots.length) {
                spots[spotted] = place;
                spotted++;
            }
        }

        private void sumUp(byte[] cells, int from) {
            int s0 = 0;
            int s1 = 0;
            int s2 = 0;
            int s3 = 0;
            int end = fits(cells, from) ? from + size : from;
            for (int k = from; k < end; k++) {
                int v = cells[k] & 255;
                s0 ^= v;
                s1 = Field.twice(s1) ^ v;
                s2 = Field.twice(Field.twice(s2)) ^ v;
                s3 = Field.twice(Field.twice(Field.twice(s3))) ^ v;
            }
            sums[0] = s0;
            sums[1] = s1;
            sums[2] = s2;
            sums[3] = s3;
        }

        /** Finds the places that differ without a mark, and adds them to the spots. */
        private boolean locate(int marks, int reach) {
            int degree = spread(NONE);
            boolean clean = true;
            for (int j = 0; j < 4 - degree; j++) {
                rest[j] = without(degree, j);
                clean &= rest[j] == 0;
            }
            if (clean) {
                return true;
            }
            return reach >= 1 && locateOne(marks, 4 - degree) || reach >= 2 && locateTwo();
        }

        private boolean locateOne(int marks, int left) {
            if (left < 2 || left > 4 || rest[0] == 0 || rest[1] == 0) {
                return false;
            }
            for (int j = 2; j < left; j++) {
                if (field.times(rest[j], rest[0]) != field.times(rest[j - 1], rest[1])) {
                    return false;
                }
            }
            int place = size - 1 - field.log(field.over(rest[1], rest[0]));
            if (place < 0 || (marks >>> place & 1) == 1) {
                return false;
            }
            addSpot(place);
            return true;
        }

        /** Only for a word without marks, whose rests are the sums themselves. */
        private boolean locateTwo() {
            int whole = field.times(sums[1], sums[1]) ^ field.times(sums[0], sums[2]);
            if (whole == 0) {
                return false;
            }
            int a = field.over(field.times(sums[0], sums[3]) ^ field.times(sums[1], sums[2]), whole);
            int b = field.over(field.times(sums[1], sums[3]) ^ field.times(sums[2], sums[2]), whole);
            for (int i = 0; i < size; i++) {
                int x = field.power(size - 1 - i);
                if ((field.times(x ^ a, x) ^ b) == 0) {
                    addSpot(i);
                }
            }
            return spotted == 2;
        }

        /** Makes the polynomial with the locators of all spots but one as roots, and tells its degree. */
        private int spread(int skipped) {
            Arrays.fill(locator, 0);
            locator[0] = 1;
            int degree = 0;
            for (int s = 0; s < spotted && s < spots.length; s++) {
                if (s == skipped) {
                    continue;
                }
                int x = field.power(size - 1 - spots[s]);
                degree++;
                for (int k = degree; k > 0; k--) {
                    locator[k] = locator[k - 1] ^ field.times(locator[k], x);
                }
                locator[0] = field.times(locator[0], x);
            }
            return degree;
        }

        private int without(int degree, int j) {
            int left = 0;
            for (int k = 0; k <= degree && j + k < 4; k++) {
                left ^= field.times(locator[k], sums[j + k]);
            }
            return left;
        }

        private void correct(byte[] cells, int from) {
            if (!fits(cells, from)) {
                return;
            }
            for (int s = 0; s < spotted && s < spots.length; s++) {
                int degree = spread(s);
                int x = field.power(size - 1 - spots[s]);
                int share = 0;
                for (int k = degree; k >= 0; k--) {
                    share = field.times(share, x) ^ locator[k];
                }
                cells[from + spots[s]] ^= (byte) field.over(without(degree, 0), share);
            }
        }
    }

    /**
     * Rows of 32 bytes with marks. Both pressing and playing turn outer words, inner words and frames into
     * one another in these rows, each in the place of the one before; what was played stays here until the
     * next press, with which nothing was played any more.
     */
    private static final class Rows {
        private final byte[] cells = new byte[MOST_FRAMES * INNER_SIZE];
        private final int[] marks = new int[MOST_FRAMES];

        byte[] cells() {
            return cells;
        }

        int startOf(int row) {
            return row * INNER_SIZE;
        }

        void empty() {
            Arrays.fill(cells, (byte) 0);
            Arrays.fill(marks, 0);
        }

        private static boolean isCell(int row, int place) {
            return row >= 0 && row < MOST_FRAMES && place >= 0 && place < INNER_SIZE;
        }

        int get(int row, int place) {
            return isCell(row, place) ? cells[row * INNER_SIZE + place] & 255 : 0;
        }

        void set(int row, int place, int b) {
            if (isCell(row, place)) {
                cells[row * INNER_SIZE + place] = (byte) b;
            }
        }

        int marksOf(int row) {
            return row >= 0 && row < marks.length ? marks[row] : -1;
        }

        void setMarks(int row, int mask) {
            if (row >= 0 && row < marks.length) {
                marks[row] = mask;
            }
        }

        boolean isMarked(int row, int place) {
            return (marksOf(row) >>> place & 1) == 1;
        }

        static boolean isTurned(int place) {
            return place >= OUTER_CHECK && place < OUTER_CHECK + 4 || place >= INNER_CHECK;
        }

        /** Where a byte of a stream's frame stands in its outer word. */
        static int placeOf(int offset) {
            int sample = offset / 4;
            int side = offset / 2 % 2;
            int low = offset % 2;
            return sample % 2 == 0 ? 6 * side + sample + low : 16 + 6 * side + sample - 1 + low;
        }

        /** How many outer words later than the frame's own number that byte stands. */
        static int lagOf(int offset) {
            return offset / 4 % 2 == 0 ? 2 : 0;
        }
    }

    /** Bytes as words of 14 bits, and back. */
    private static final class Speller {
        private static final int[] WORDS = {
            4640, 8448, 9248, 8736, 4352, 272, 1056, 2304, 4672, 8256, 9280, 8768, 4160, 64, 1088, 2112,
            8224, 8320, 9344, 2080, 4224, 128, 1152, 2176, 4624, 8208, 9232, 8720, 4112, 528, 1040, 2064,
            32, 8456, 544, 2336, 4360, 264, 4128, 2312, 4680, 8264, 9288, 8776, 4168, 72, 1096, 2120,
            256, 8328, 9352, 8464, 4232, 136, 1160, 2184, 4616, 8200, 9224, 8712, 4104, 520, 1032, 2056,
            4644, 8484, 9252, 8740, 4388, 36, 1060, 2340, 4676, 8260, 9284, 8772, 4164, 68, 1092, 2116,
            8228, 8324, 9348, 2084, 4228, 132, 1156, 2180, 4612, 8196, 9220, 8708, 4100, 516, 1028, 2052,
            4642, 8482, 9250, 8738, 4386, 34, 4132, 2338, 4674, 8258, 9282, 8770, 4162, 66, 1090, 2114,
            8226, 8322, 9346, 2082, 4226, 130, 1154, 2178, 4610, 584, 9218, 8706, 4098, 514, 1026, 2050,
            4641, 8481, 9249, 8737, 4385, 33, 1057, 2337, 4673, 8257, 9281, 8769, 4161, 65, 1089, 2113,
            8225, 8321, 9345, 2081, 4225, 129, 1153, 2177, 4609, 8336, 9217, 8705, 4240, 513, 1025, 2192,
            545, 8457, 4368, 289, 4361, 265, 4129, 2313, 4681, 8265, 9289, 8777, 4169, 73, 1097, 2121,
            288, 8329, 9353, 2320, 4233, 137, 1161, 2185, 4617, 8201, 9225, 8713, 4105, 521, 1033, 2057,
            4384, 8465, 9360, 548, 4369, 273, 1168, 2321, 577, 8449, 580, 576, 4353, 257, 144, 2305,
            292, 8337, 9361, 8480, 4241, 145, 1169, 2193, 4625, 8209, 9233, 8721, 4113, 529, 1041, 2065,
            4354, 258, 8466, 2306, 4370, 274, 4130, 2322, 8450, 8452, 585, 578, 4356, 260, 1058, 2308,
            290, 8338, 9362, 546, 4242, 146, 1170, 2194, 4626, 8210, 9234, 8722, 4114, 530, 1042, 2066
        };
        private static final int KINDS = 20;

        /** As ones stand three apart, only 19 halves of 7 bits occur; numbered, they make a small square table. */
        private final int[] kinds = new int[128];
        private final int[] square = new int[KINDS * KINDS];

        Speller() {
            int known = 0;
            for (int b = 0; b < WORDS.length; b++) {
                int high = WORDS[b] >>> 7 & 127;
                int low = WORDS[b] & 127;
                if (kinds[high] == 0 && known < KINDS - 1) {
                    known++;
                    kinds[high] = known;
                }
                if (kinds[low] == 0 && known < KINDS - 1) {
                    known++;
                    kinds[low] = known;
                }
                square[kinds[high] * KINDS + kinds[low]] = b;
            }
        }

        int wordOf(int b) {
            return b >= 0 && b < WORDS.length ? WORDS[b] : NONE;
        }

        int byteOf(int word) {
            if (word < 0 || word >= 1 << WORD_BITS) {
                return NONE;
            }
            // A half that no word has leads to some byte all the same, which is why its word is compared.
            int b = square[kinds[word >>> 7] * KINDS + kinds[word & 127]];
            return wordOf(b) == word ? b : NONE;
        }
    }

    /** The bits of the disc, packed by 32, the first one highest; those behind the end are always 0. */
    private static final class Groove {
        private final int[] packed = new int[MOST_BITS / 32];
        private int size;
        private int pressed;

        void reset(int frames) {
            Arrays.fill(packed, 0);
            size = 0;
            pressed = frames;
        }

        int size() {
            return size;
        }

        int framesPressed() {
            return pressed;
        }

        boolean wasPressed(int frame) {
            return frame >= 0 && frame < pressed;
        }

        boolean has(int i) {
            return i >= 0 && i < size;
        }

        private int cell(int k) {
            return k >= 0 && k < packed.length ? packed[k] : 0;
        }

        /** The 32 bits from a place on, which may lie before the beginning or behind the end. */
        int peek(int from) {
            int k = from >> 5;
            int into = from & 31;
            return into == 0 ? cell(k) : cell(k) << into | cell(k + 1) >>> (32 - into);
        }

        int wordAt(int start, int k) {
            return peek(start + SIGN_BITS + JOINT_BITS + STEP_BITS * k) >>> (32 - WORD_BITS);
        }

        void append(int symbol, int many) {
            int aligned = symbol << (32 - many);
            int into = size & 31;
            merge(size >> 5, aligned >>> into);
            if (into > 0) {
                merge((size >> 5) + 1, aligned << (32 - into));
            }
            size += many;
        }

        private void merge(int k, int value) {
            if (k >= 0 && k < packed.length) {
                packed[k] |= value;
            }
        }

        void turn(int i) {
            if (has(i) && i >> 5 < packed.length) {
                packed[i >> 5] ^= 1 << (31 - (i & 31));
            }
        }

        /** Those bits of cell k that stand at place i or behind it. */
        private static int behind(int k, int i) {
            int into = i - 32 * k;
            return into <= 0 ? -1 : into >= 32 ? 0 : -1 >>> into;
        }

        void blank(int from, int to) {
            for (int k = Math.max(from, 0) >> 5; k < packed.length && 32 * k < to; k++) {
                packed[k] &= ~behind(k, from) | behind(k, to);
            }
        }

        void insertZeros(int i, int n) {
            // From the end on, as each cell takes its bits from cells before it.
            for (int k = Math.min((size + n - 1) >> 5, packed.length - 1); k >= 0 && k >= i >> 5; k--) {
                packed[k] = packed[k] & ~behind(k, i) | peek(32 * k - n) & behind(k, i + n);
            }
            size += n;
        }

        void remove(int i, int n) {
            int gone = Math.min(n, size - i);
            for (int k = Math.max(i, 0) >> 5; k < packed.length && 32 * k < size; k++) {
                packed[k] = packed[k] & ~behind(k, i) | peek(32 * k + gone) & behind(k, i);
            }
            size -= gone;
        }

        /** The sum of the levels behind each of the first bits, the level before them being 1. */
        static int rise(int bits, int many) {
            // Each bit becomes the parity of the ones up to it: 1 where the level is turned.
            int low = bits ^ bits >>> 1;
            low ^= low >>> 2;
            low ^= low >>> 4;
            low ^= low >>> 8;
            low ^= low >>> 16;
            int counted = many >= 32 ? -1 : ~(-1 >>> many);
            return many - 2 * Integer.bitCount(low & counted);
        }

        int balanceBehind(int n) {
            int sum = 0;
            int level = 1;
            for (int k = 0; 32 * k < n; k++) {
                int bits = cell(k);
                sum += level * rise(bits, Math.min(32, n - 32 * k));
                if (Integer.bitCount(bits) % 2 == 1) {
                    level = -level;
                }
            }
            return sum;
        }

        int extremeRun(boolean longest) {
            int best = NONE;
            int gap = NONE;
            for (int k = 0; 32 * k < size; k++) {
                int bits = cell(k);
                for (int b = 31; b >= 0; b--) {
                    if ((bits >>> b & 1) == 0) {
                        gap = gap == NONE ? NONE : gap + 1;
                        continue;
                    }
                    if (gap != NONE && (best == NONE || (longest ? gap > best : gap < best))) {
                        best = gap;
                    }
                    gap = 0;
                }
            }
            return best;
        }

        boolean signStands(int p) {
            return p >= 0 && p <= size - SIGN_BITS && peek(p) >>> (32 - SIGN_BITS) == SIGN;
        }

        /** The first place from one on where the sign stands. */
        int nextSign(int from) {
            for (int p = Math.max(from, 0); p < size; p += 32) {
                // The sign's three ones rule out most of 32 places at once.
                int may = peek(p) & peek(p + 11) & peek(p + 22);
                for (int b = 0; b < 32 && may != 0; b++) {
                    if ((may >>> (31 - b) & 1) == 1 && signStands(p + b)) {
                        return p + b;
                    }
                }
            }
            return NONE;
        }

        int countSigns() {
            int p = nextSign(0);
            int count = 0;
            while (p != NONE && count < size) {
                count++;
                p = nextSign(p + 1);
            }
            return count;
        }

        int findSign(int i) {
            int p = i < 0 ? NONE : nextSign(0);
            for (int k = 0; k < i && p != NONE; k++) {
                p = nextSign(p + 1);
            }
            return p;
        }
    }

    /** The 96 bits of Q, as twelve bytes. */
    private static final class Label {
        private final int[] octets = new int[12];

        void write(int control, int track, int index, int time, int place) {
            octets[0] = control << 4 | 1;
            octets[1] = figures(track);
            octets[2] = figures(index);
            writeTime(3, time);
            octets[6] = 0;
            writeTime(7, place);
            int turned = ~restOf80();
            octets[10] = turned >>> 8 & 255;
            octets[11] = turned & 255;
        }

        private void writeTime(int k, int sections) {
            octets[k] = figures(sections / 4500);
            octets[k + 1] = figures(sections / 75 % 60);
            octets[k + 2] = figures(sections % 75);
        }

        private static int figures(int n) {
            return n / 10 % 10 << 4 | n % 10;
        }

        private int restOf80() {
            int left = 0;
            for (int k = 0; k < 80; k++) {
                int top = left >>> 15 ^ bitOf(k);
                left = left << 1 & 0xffff;
                if (top == 1) {
                    left ^= 0x1021;
                }
            }
            return left;
        }

        int bitOf(int k) {
            return k >= 0 && k < 96 ? octets[k >> 3] >>> (7 - (k & 7)) & 1 : 0;
        }

        void setBit(int k, int bit) {
            if (k >= 0 && k < 96) {
                int at = 7 - (k & 7);
                octets[k >> 3] = octets[k >> 3] & ~(1 << at) | bit << at;
            }
        }

        boolean isSound() {
            int checks = octets[10] << 8 | octets[11];
            boolean figured = areFigures(1) && areFigures(2) && isTime(3) && isTime(7);
            return checks == (~restOf80() & 0xffff) && (octets[0] & 15) == 1 && figured;
        }

        private boolean areFigures(int k) {
            return octets[k] >>> 4 <= 9 && (octets[k] & 15) <= 9;
        }

        private boolean isTime(int k) {
            return areFigures(k) && areFigures(k + 1) && areFigures(k + 2) && number(k + 1) < 60 && number(k + 2) < 75;
        }

        private int number(int k) {
            return (octets[k] >>> 4) * 10 + (octets[k] & 15);
        }

        private int timeOf(int k) {
            return number(k) * 4500 + number(k + 1) * 75 + number(k + 2);
        }

        int control() {
            return octets[0] >>> 4;
        }

        int track() {
            return number(1);
        }

        int index() {
            return number(2);
        }

        int time() {
            return timeOf(3);
        }

        int place() {
            return timeOf(7);
        }
    }

    /** Begin and the entries: what the channel beside tells of each section. */
    private static final class Contents {
        private final int[] sections = new int[MOST_ENTRIES];
        private final int[] controls = new int[MOST_ENTRIES];
        private final int[] tracks = new int[MOST_ENTRIES];
        private final int[] indexes = new int[MOST_ENTRIES];
        private int entries;
        private int start;

        void startAt(int section) {
            start = section;
        }

        int add(int section, int control, int track, int index) {
            if (entries < 0 || entries >= MOST_ENTRIES) {
                return NONE;
            }
            sections[entries] = section;
            controls[entries] = control;
            tracks[entries] = track;
            indexes[entries] = index;
            entries++;
            return entries;
        }

        int clear() {
            int had = entries;
            entries = 0;
            return had;
        }

        private int entryFor(int section) {
            int best = NONE;
            for (int e = 0; e < entries && e < MOST_ENTRIES; e++) {
                if (sections[e] <= section && (best == NONE || sections[e] >= sections[best])) {
                    best = e;
                }
            }
            return best;
        }

        private static boolean isEntry(int e) {
            return e >= 0 && e < MOST_ENTRIES;
        }

        private int controlOf(int e) {
            return isEntry(e) ? controls[e] : 0;
        }

        private int trackOf(int e) {
            return isEntry(e) ? tracks[e] : 1;
        }

        private int indexOf(int e) {
            return isEntry(e) ? indexes[e] : 1;
        }

        boolean isPause(int section) {
            return indexOf(entryFor(section)) == 0;
        }

        /** Whether sections of two entries may be counted together: of one track, and both pauses or neither. */
        private boolean belongs(int e, int other) {
            return trackOf(e) == trackOf(other) && (indexOf(e) == 0) == (indexOf(other) == 0);
        }

        private int timeOf(int section, int all) {
            int e = entryFor(section);
            int count = 0;
            if (indexOf(e) == 0) {
                for (int s = section; s < all && belongs(e, entryFor(s)); s++) {
                    count++;
                }
            } else {
                for (int s = section - 1; s >= 0 && belongs(e, entryFor(s)); s--) {
                    count++;
                }
            }
            return count;
        }

        void describe(int section, int all, Label label) {
            int e = entryFor(section);
            label.write(controlOf(e), trackOf(e), indexOf(e), timeOf(section, all), start + section);
        }
    }

    /** Turns the stream into the bits of a disc. */
    private static final class Presser {
        private final Rows rows;
        private final Groove groove;
        private final Speller speller;
        private final Code innerCode;
        private final Code outerCode;
        private final Contents contents;
        private final Label label = new Label();
        /** The last bits, the zeros behind the last one, the balance and the level where the disc ends by now. */
        private long recent;
        private int gap;
        private int sum;
        private int level;

        Presser(Rows rows, Groove groove, Speller speller, Code innerCode, Code outerCode, Contents contents) {
            this.rows = rows;
            this.groove = groove;
            this.speller = speller;
            this.innerCode = innerCode;
            this.outerCode = outerCode;
            this.contents = contents;
        }

        int pressStream(byte[] stream, int fed) {
            int frames = fed == 0 ? 0 : (fed + FRAME_BYTES - 1) / FRAME_BYTES + MORE_FRAMES;
            groove.reset(frames);
            if (frames > 0) {
                rows.empty();
                makeOuterWords(stream, fed, frames);
                makeInnerWords(frames);
                makeFrames(frames);
                cut(frames);
            }
            return frames;
        }

        private void makeOuterWords(byte[] stream, int fed, int frames) {
            for (int i = 0; i < fed && i < stream.length; i++) {
                int offset = i % FRAME_BYTES;
                rows.set(i / FRAME_BYTES + Rows.lagOf(offset), Rows.placeOf(offset), stream[i]);
            }
            for (int v = 0; v < frames; v++) {
                outerCode.settle(rows.cells(), rows.startOf(v));
            }
        }

        /** From the last one on, as each takes its bytes from rows before it. */
        private void makeInnerWords(int frames) {
            for (int w = frames - 1; w >= 0; w--) {
                for (int i = 0; i < OUTER_SIZE; i++) {
                    rows.set(w, i, rows.get(w - DELAY * i, i));
                }
                innerCode.settle(rows.cells(), rows.startOf(w));
            }
        }

        /** The odd places of a frame are those of its own inner word, which stand in its row already. */
        private void makeFrames(int frames) {
            for (int f = frames - 1; f >= 0; f--) {
                for (int i = 0; i < INNER_SIZE; i += 2) {
                    rows.set(f, i, rows.get(f - 1, i));
                }
            }
        }

        private void cut(int frames) {
            startGroove();
            int sections = (frames + SECTION_FRAMES - 1) / SECTION_FRAMES;
            for (int f = 0; f < frames; f++) {
                if (f == 0) {
                    carve(SIGN, SIGN_BITS);
                } else {
                    carveJoined(SIGN, SIGN_BITS);
                }
                if (f % SECTION_FRAMES == 0) {
                    contents.describe(f / SECTION_FRAMES, sections, label);
                }
                carveJoined(wordBeside(f), WORD_BITS);
                for (int i = 0; i < INNER_SIZE; i++) {
                    int b = rows.get(f, i);
                    carveJoined(speller.wordOf(Rows.isTurned(i) ? 255 - b : b), WORD_BITS);
                }
            }
            carve(0, JOINT_BITS);
        }

        private void startGroove() {
            recent = 0;
            gap = 0;
            sum = 0;
            level = 1;
        }

        private int wordBeside(int f) {
            int r = f % SECTION_FRAMES;
            if (r < 2) {
                return r == 0 ? FIRST_MARK : SECOND_MARK;
            }
            int b = contents.isPause(f / SECTION_FRAMES) ? PAUSE_BIT : 0;
            return speller.wordOf(b + Q_BIT * label.bitOf(r - 2));
        }

        private void carveJoined(int symbol, int many) {
            carve(chooseJoint(symbol, many) << many | symbol, many + JOINT_BITS);
        }

        private void carve(int symbol, int many) {
            groove.append(symbol, many);
            recent = recent << many | symbol;
            sum += level * Groove.rise(symbol << (32 - many), many);
            if (Integer.bitCount(symbol) % 2 == 1) {
                level = -level;
            }
            int behind = zerosBehind(symbol, many);
            gap = behind == many ? gap + many : behind;
        }

        private static int zerosBehind(int symbol, int many) {
            int zeros = 0;
            while (zeros < many && (symbol >>> zeros & 1) == 0) {
                zeros++;
            }
            return zeros;
        }

        private static int zerosAhead(int symbol, int many) {
            int zeros = 0;
            while (zeros < many && (symbol >>> (many - 1 - zeros) & 1) == 0) {
                zeros++;
            }
            return zeros;
        }

        private int chooseJoint(int symbol, int many) {
            int ahead = zerosAhead(symbol, many);
            int best = 0;
            int bestFar = MOST_BITS + 1;
            boolean bestMocks = true;
            for (int bit = 0; bit <= JOINT_BITS; bit++) {
                int joint = 1 << bit >>> 1;
                if (!mayBe(bit, ahead)) {
                    continue;
                }
                int both = joint << many | symbol;
                int all = many + JOINT_BITS;
                boolean mocks = many == WORD_BITS && mocks(both, all);
                int far = Math.abs(sum + level * Groove.rise(both << (32 - all), all));
                if (bestMocks && !mocks || bestMocks == mocks && far < bestFar) {
                    best = joint;
                    bestFar = far;
                    bestMocks = mocks;
                }
            }
            return best;
        }

        /** Whether the joint 000 (bit 0), 001, 010 or 100 (bit 1, 2, 3) may be. */
        private boolean mayBe(int bit, int ahead) {
            if (bit == 0) {
                return isRun(gap + JOINT_BITS + ahead);
            }
            return isRun(gap + JOINT_BITS - bit) && isRun(bit - 1 + ahead);
        }

        private static boolean isRun(int zeros) {
            return zeros >= 2 && zeros <= 10;
        }

        private boolean mocks(int both, int all) {
            long seen = recent << all | both;
            // The sign's ones are 11 bits apart, the last of them before its last bit.
            long may = seen & seen >>> 11 & seen >>> 22;
            for (int end = 0; end < all && may != 0; end++) {
                if ((seen >>> end & (1 << SIGN_BITS) - 1) == SIGN) {
                    return true;
                }
            }
            return false;
        }
    }

    /** Plays the disc, and keeps what came of it. */
    private static final class Player {
        private final Rows rows;
        private final Groove groove;
        private final Speller speller;
        private final Code innerCode;
        private final Code outerCode;
        private final Label label = new Label();
        private final int[] starts = new int[MOST_FRAMES];
        private final int[] besides = new int[MOST_FRAMES];
        private final int[] innerFates = new int[MOST_FRAMES];
        private final int[] outerFates = new int[MOST_FRAMES];
        private final int[] samples = new int[2 * MOST_SAMPLES];
        /** What told() tells, in its order. */
        private final int[] tallies = new int[8];
        private boolean done;
        private int found;
        private int streamFrames;

        Player(Rows rows, Groove groove, Speller speller, Code innerCode, Code outerCode) {
            this.rows = rows;
            this.groove = groove;
            this.speller = speller;
            this.innerCode = innerCode;
            this.outerCode = outerCode;
        }

        void forget() {
            done = false;
        }

        int perform(int innerReach, int outerReach, int window) {
            Arrays.fill(tallies, 0);
            streamFrames = groove.framesPressed() - MORE_FRAMES;
            findFrames(window);
            for (int f = 0; f < found; f++) {
                readFrame(f);
            }
            for (int w = 0; w < found; w++) {
                takeInnerWord(w);
                mendInner(w, innerReach);
            }
            for (int v = 0; v < found; v++) {
                int marks = takeOuterWord(v);
                mendOuter(v, marks, outerReach);
            }
            done = true;
            countUnsure();
            hide(0);
            hide(1);
            tallies[6] = found;
            tallies[7] = countSections();
            return tallies[3];
        }

        private void findFrames(int window) {
            found = 0;
            int p = Math.max(groove.nextSign(0), 0);
            do {
                starts[found] = p;
                found++;
                p = nextStart(p + FRAME_BITS, window);
            } while (found < MOST_FRAMES && p < groove.size());
        }

        private int nextStart(int due, int window) {
            for (int d = 0; d <= window; d++) {
                if (groove.signStands(due - d)) {
                    return due - d;
                }
                if (groove.signStands(due + d)) {
                    return due + d;
                }
            }
            return due;
        }

        private void readFrame(int f) {
            if (f < 0 || f >= MOST_FRAMES) {
                return;
            }
            besides[f] = groove.wordAt(starts[f], 0);
            int marks = 0;
            for (int i = 0; i < INNER_SIZE; i++) {
                int b = speller.byteOf(groove.wordAt(starts[f], i + 1));
                if (b == NONE) {
                    tallies[0]++;
                    marks |= 1 << i;
                    b = 0;
                }
                rows.set(f, i, Rows.isTurned(i) ? 255 - b : b);
            }
            rows.setMarks(f, marks);
        }

        /** The odd places are in this row already, the even ones came a frame later. */
        private void takeInnerWord(int w) {
            boolean last = w + 1 >= found;
            for (int i = 0; i < INNER_SIZE; i += 2) {
                rows.set(w, i, last ? 0 : rows.get(w + 1, i));
            }
            int later = last ? -1 : rows.marksOf(w + 1);
            rows.setMarks(w, rows.marksOf(w) & ~EVEN_PLACES | later & EVEN_PLACES);
        }

        private void mendInner(int w, int reach) {
            int fate = innerCode.heal(rows.cells(), rows.startOf(w), rows.marksOf(w), reach);
            if (fate == FAILED) {
                tallies[1]++;
            }
            rows.setMarks(w, fate == FAILED ? -1 : 0);
            if (w >= 0 && w < MOST_FRAMES) {
                innerFates[w] = fate;
            }
        }

        private int takeOuterWord(int v) {
            int marks = 0;
            for (int i = 0; i < OUTER_SIZE; i++) {
                int w = v + DELAY * i;
                rows.set(v, i, w < found ? rows.get(w, i) : 0);
                if (w >= found || rows.isMarked(w, i)) {
                    marks |= 1 << i;
                }
            }
            return marks;
        }

        private void mendOuter(int v, int marks, int reach) {
            int many = Integer.bitCount(marks);
            tallies[5] = Math.max(tallies[5], many);
            int fate = outerCode.heal(rows.cells(), rows.startOf(v), marks, reach);
            int left = 0;
            if (fate == FAILED) {
                tallies[2]++;
                left = many > 4 ? marks : ALL_OUTER;
            }
            rows.setMarks(v, left);
            if (v >= 0 && v < MOST_FRAMES) {
                outerFates[v] = fate;
            }
        }

        boolean hasByte(int i) {
            return done && i >= 0 && i < FRAME_BYTES * streamFrames;
        }

        private static int rowOf(int i) {
            return i / FRAME_BYTES + Rows.lagOf(i % FRAME_BYTES);
        }

        int byteOf(int i) {
            int row = rowOf(i);
            return row < found ? rows.get(row, Rows.placeOf(i % FRAME_BYTES)) : 0;
        }

        boolean sureOf(int i) {
            int row = rowOf(i);
            return row < found && !rows.isMarked(row, Rows.placeOf(i % FRAME_BYTES));
        }

        private void countUnsure() {
            for (int i = 0; i < FRAME_BYTES * streamFrames; i++) {
                if (!sureOf(i)) {
                    tallies[3]++;
                }
            }
        }

        private static int highByteOf(int i, int side) {
            return 4 * i + 2 * side;
        }

        private boolean isSample(int i) {
            return i >= 0 && i < FRAME_SAMPLES * streamFrames && i < MOST_SAMPLES;
        }

        private boolean sampleSure(int i, int side) {
            int at = highByteOf(i, side);
            return isSample(i) && sureOf(at) && sureOf(at + 1);
        }

        private int sampleOf(int i, int side) {
            int at = highByteOf(i, side);
            return (short) (byteOf(at) << 8 | byteOf(at + 1));
        }

        private void hide(int side) {
            int before = 0;
            for (int i = 0; i < FRAME_SAMPLES * streamFrames && i < MOST_SAMPLES; i++) {
                if (sampleSure(i, side)) {
                    before = sampleOf(i, side);
                } else {
                    tallies[4]++;
                    // An arithmetic shift, so that a mean below 0 is cut down too.
                    before = sampleSure(i + 1, side) ? before + sampleOf(i + 1, side) >> 1 : before;
                }
                samples[2 * i + side] = before;
            }
        }

        int sampleHeard(int i, boolean right) {
            return done && isSample(i) ? samples[2 * i + (right ? 1 : 0)] : SILENT;
        }

        private boolean wasFound(int f) {
            return done && f >= 0 && f < found && f < MOST_FRAMES;
        }

        int innerFate(int w) {
            return wasFound(w) ? innerFates[w] : NONE;
        }

        int outerFate(int v) {
            return wasFound(v) ? outerFates[v] : NONE;
        }

        int tally(int what) {
            return done && what >= 0 && what < tallies.length ? tallies[what] : NONE;
        }

        private boolean beginsSection(int f) {
            return wasFound(f) && wasFound(f + 1) && besides[f] == FIRST_MARK && besides[f + 1] == SECOND_MARK;
        }

        private int countSections() {
            int count = 0;
            for (int f = 0; f < found; f++) {
                if (beginsSection(f)) {
                    count++;
                }
            }
            return count;
        }

        private int sectionStart(int s) {
            int left = s;
            for (int f = 0; f < found; f++) {
                if (beginsSection(f)) {
                    if (left == 0) {
                        return f;
                    }
                    left--;
                }
            }
            return NONE;
        }

        int sectionTells(int s, int what) {
            int first = done && s >= 0 ? sectionStart(s) : NONE;
            if (first == NONE || what < 0 || what > 6) {
                return NONE;
            }
            int pauses = readLabel(first);
            boolean sound = pauses != NONE && label.isSound();
            if (what == 0) {
                return sound ? 1 : 0;
            }
            if (!sound) {
                return NONE;
            }
            switch (what) {
                case 1:
                    return label.control();
                case 2:
                    return label.track();
                case 3:
                    return label.index();
                case 4:
                    return label.time();
                case 5:
                    return label.place();
                default:
                    return pauses;
            }
        }

        /** Takes a section's Q from the bytes beside: in how many of these the pause is told, or NONE. */
        private int readLabel(int first) {
            if (first < 0 || first + SECTION_FRAMES > found) {
                return NONE;
            }
            int pauses = 0;
            for (int r = 2; r < SECTION_FRAMES; r++) {
                int b = wasFound(first + r) ? speller.byteOf(besides[first + r]) : NONE;
                if (b == NONE) {
                    return NONE;
                }
                label.setBit(r - 2, (b & Q_BIT) == 0 ? 0 : 1);
                pauses += (b & PAUSE_BIT) == 0 ? 0 : 1;
            }
            return pauses;
        }
    }
}
