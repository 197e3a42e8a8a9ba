import java.util.ArrayList;
import java.util.Arrays;
import java.util.HashMap;
import java.util.List;
import java.util.Map;

/**
 * The document written down a second time, as literally and slowly as it goes (bits as text, codes by
 * trying every set of places), to compare the class with. It shares no code with it.
 */
final class PlainModel {
    static final String SIGN = "100000000001000000000010";
    static final String TABLE = ""
            + "4640 8448 9248 8736 4352 272 1056 2304 4672 8256 9280 8768 4160 64 1088 2112 8224 8320 9344 2080 4224 128 1152 2176 4624 8208 9232 8720 4112 528 1040 2064 "
            + "32 8456 544 2336 4360 264 4128 2312 4680 8264 9288 8776 4168 72 1096 2120 256 8328 9352 8464 4232 136 1160 2184 4616 8200 9224 8712 4104 520 1032 2056 "
            + "4644 8484 9252 8740 4388 36 1060 2340 4676 8260 9284 8772 4164 68 1092 2116 8228 8324 9348 2084 4228 132 1156 2180 4612 8196 9220 8708 4100 516 1028 2052 "
            + "4642 8482 9250 8738 4386 34 4132 2338 4674 8258 9282 8770 4162 66 1090 2114 8226 8322 9346 2082 4226 130 1154 2178 4610 584 9218 8706 4098 514 1026 2050 "
            + "4641 8481 9249 8737 4385 33 1057 2337 4673 8257 9281 8769 4161 65 1089 2113 8225 8321 9345 2081 4225 129 1153 2177 4609 8336 9217 8705 4240 513 1025 2192 "
            + "545 8457 4368 289 4361 265 4129 2313 4681 8265 9289 8777 4169 73 1097 2121 288 8329 9353 2320 4233 137 1161 2185 4617 8201 9225 8713 4105 521 1033 2057 "
            + "4384 8465 9360 548 4369 273 1168 2321 577 8449 580 576 4353 257 144 2305 292 8337 9361 8480 4241 145 1169 2193 4625 8209 9233 8721 4113 529 1041 2065 "
            + "4354 258 8466 2306 4370 274 4130 2322 8450 8452 585 578 4356 260 1058 2308 290 8338 9362 546 4242 146 1170 2194 4626 8210 9234 8722 4114 530 1042 2066";

    private final String[] words = new String[256];
    private final Map<String, Integer> bytes = new HashMap<>();

    private final List<Integer> stream = new ArrayList<>();
    private int begin = 0;
    private final List<int[]> entries = new ArrayList<>();

    private StringBuilder disc = null;
    private int pressedFrames = 0;

    private boolean wasPlayed = false;
    private int streamFrames;
    private int found;
    private int unread;
    private int[] innerFate;
    private int[] outerFate;
    private int worst;
    private int[] playedBytes;
    private boolean[] sure;
    private int[][] heard;
    private int hidden;
    private String[] besides;

    private final int[] bench = new int[32];
    private final boolean[] benchMarks = new boolean[32];

    PlainModel() {
        String[] numbers = TABLE.trim().split(" +");
        for (int b = 0; b < 256; b++) {
            words[b] = binary(Integer.parseInt(numbers[b]), 14);
            bytes.put(words[b], b);
        }
    }

    static String binary(int n, int digits) {
        StringBuilder text = new StringBuilder();
        for (int k = digits - 1; k >= 0; k--) {
            text.append((n >> k) % 2 == 0 ? '0' : '1');
        }
        return text.toString();
    }

    // ---- bytes and codes

    static int times(int a, int b) {
        int product = 0;
        for (int k = 0; k < 8; k++) {
            if ((b >> k) % 2 == 1) {
                product ^= a << k;
            }
        }
        for (int k = 14; k >= 8; k--) {
            if ((product >> k) % 2 == 1) {
                product ^= 285 << (k - 8);
            }
        }
        return product;
    }

    static int power(int e) {
        int x = 1;
        for (int k = 0; k < e % 255; k++) {
            x = times(x, 2);
        }
        return x;
    }

    private static final int[][] WEIGHTS = new int[4][32];
    private static final int[] INVERSES = new int[256];

    static {
        for (int j = 0; j < 4; j++) {
            for (int d = 0; d < 32; d++) {
                WEIGHTS[j][d] = power(j * d);
            }
        }
        for (int a = 1; a < 256; a++) {
            for (int b = 1; b < 256; b++) {
                if (times(a, b) == 1) {
                    INVERSES[a] = b;
                }
            }
        }
    }

    static int sum(int[] v, int n, int j) {
        int s = 0;
        for (int i = 0; i < n; i++) {
            s ^= times(v[i], WEIGHTS[j][n - 1 - i]);
        }
        return s;
    }

    /** What must be added at these places so that all sums are 0; null if nothing does it. */
    static int[] solve(int[] v, int n, int[] places) {
        int many = places.length;
        int[][] m = new int[4][many + 1];
        for (int j = 0; j < 4; j++) {
            for (int k = 0; k < many; k++) {
                m[j][k] = WEIGHTS[j][n - 1 - places[k]];
            }
            m[j][many] = sum(v, n, j);
        }
        for (int k = 0; k < many; k++) {
            int pivot = k;
            while (m[pivot][k] == 0) {
                pivot++;
            }
            int[] row = m[pivot];
            m[pivot] = m[k];
            m[k] = row;
            int inverse = INVERSES[row[k]];
            for (int c = 0; c <= many; c++) {
                row[c] = times(row[c], inverse);
            }
            for (int j = 0; j < 4; j++) {
                int factor = m[j][k];
                for (int c = 0; j != k && c <= many; c++) {
                    m[j][c] ^= times(factor, row[c]);
                }
            }
        }
        for (int j = many; j < 4; j++) {
            if (m[j][many] != 0) {
                return null;
            }
        }
        int[] values = new int[many];
        for (int k = 0; k < many; k++) {
            values[k] = m[k][many];
        }
        return values;
    }

    private static boolean tryPlaces(int[] v, int n, int[] places) {
        int[] values = solve(v, n, places);
        if (values == null) {
            return false;
        }
        for (int k = 0; k < places.length; k++) {
            v[places[k]] ^= values[k];
        }
        return true;
    }

    static int mendWord(int[] v, boolean[] marks, int n, int reach) {
        int m = 0;
        for (int i = 0; i < n; i++) {
            m += marks[i] ? 1 : 0;
        }
        if (m > 4) {
            return -2;
        }
        int[] marked = new int[m];
        for (int i = 0, k = 0; i < n; i++) {
            if (marks[i]) {
                marked[k++] = i;
            }
        }
        if (tryPlaces(v, n, marked)) {
            return m;
        }
        if (reach >= 1 && m + 2 <= 4) {
            int[] places = Arrays.copyOf(marked, m + 1);
            for (int a = 0; a < n; a++) {
                places[m] = a;
                if (!marks[a] && tryPlaces(v, n, places)) {
                    return m + 1;
                }
            }
        }
        if (reach >= 2 && m == 0) {
            for (int a = 0; a < n; a++) {
                for (int b = a + 1; b < n; b++) {
                    if (tryPlaces(v, n, new int[] {a, b})) {
                        return 2;
                    }
                }
            }
        }
        return -2;
    }

    static void sealWord(int[] v, int n, int firstCheck) {
        tryPlaces(v, n, new int[] {firstCheck, firstCheck + 1, firstCheck + 2, firstCheck + 3});
    }

    // ---- the stream, what is told beside

    int feed(long w, int n) {
        if (n < 1 || n > 8 || stream.size() + n > 11712) {
            return -1;
        }
        for (int k = n - 1; k >= 0; k--) {
            stream.add((int) (w >> (8 * k)) & 255);
        }
        return stream.size();
    }

    int fill(int n, int seed) {
        if (n < 0 || (long) stream.size() + n > 11712) {
            return -1;
        }
        int z = seed;
        for (int k = 0; k < n; k++) {
            z = z * 1664525 + 1013904223;
            stream.add(z >>> 24);
        }
        return stream.size();
    }

    int wipe() {
        int had = stream.size();
        stream.clear();
        return had;
    }

    int streamAt(int i) {
        return i >= 0 && i < stream.size() ? stream.get(i) : -1;
    }

    boolean begin(int section) {
        if (section < 0 || section > 400000) {
            return false;
        }
        begin = section;
        return true;
    }

    int entry(int section, int control, int track, int index) {
        if (section < 0 || section > 9 || control < 0 || control > 15 || track < 1 || track > 99
                || index < 0 || index > 99 || entries.size() == 20) {
            return -1;
        }
        entries.add(new int[] {section, control, track, index});
        return entries.size();
    }

    int plain() {
        int had = entries.size();
        entries.clear();
        return had;
    }

    private int[] entryOf(int section) {
        for (int s = section; s >= 0; s--) {
            for (int k = entries.size() - 1; k >= 0; k--) {
                if (entries.get(k)[0] == s) {
                    return entries.get(k);
                }
            }
        }
        return new int[] {0, 0, 1, 1};
    }

    // ---- pressing

    private int frameByte(int frame, int sample, int side, int low) {
        int i = 24 * frame + 4 * sample + 2 * side + low;
        return frame >= 0 && i < stream.size() ? stream.get(i) : 0;
    }

    private int[] outerWord(int v) {
        int[] word = new int[28];
        if (v < 0) {
            return word;
        }
        int place = 0;
        for (int side = 0; side < 2; side++) {
            for (int sample = 0; sample < 6; sample += 2) {
                word[place++] = frameByte(v - 2, sample, side, 0);
                word[place++] = frameByte(v - 2, sample, side, 1);
            }
        }
        place = 16;
        for (int side = 0; side < 2; side++) {
            for (int sample = 1; sample < 6; sample += 2) {
                word[place++] = frameByte(v, sample, side, 0);
                word[place++] = frameByte(v, sample, side, 1);
            }
        }
        sealWord(word, 28, 12);
        return word;
    }

    private int[][] discBytes(int frames) {
        int[][] outers = new int[frames][];
        int[][] inners = new int[frames][];
        int[][] all = new int[frames][32];
        for (int v = 0; v < frames; v++) {
            outers[v] = outerWord(v);
        }
        for (int w = 0; w < frames; w++) {
            inners[w] = new int[32];
            for (int i = 0; i < 28; i++) {
                inners[w][i] = w - 4 * i < 0 ? 0 : outers[w - 4 * i][i];
            }
            sealWord(inners[w], 32, 28);
        }
        for (int f = 0; f < frames; f++) {
            for (int i = 0; i < 32; i++) {
                int w = i % 2 == 0 ? f - 1 : f;
                all[f][i] = w < 0 ? 0 : inners[w][i];
                if (i >= 12 && i <= 15 || i >= 28) {
                    all[f][i] = 255 - all[f][i];
                }
            }
        }
        return all;
    }

    private static String figures(int n) {
        return binary(n / 10, 4) + binary(n % 10, 4);
    }

    private static String timeText(int n) {
        return figures(n / 4500) + figures(n / 75 % 60) + figures(n % 75);
    }

    static String checkBits(String bits80) {
        char[] left = (bits80 + "0000000000000000").toCharArray();
        for (int k = 0; k < 80; k++) {
            if (left[k] == '1') {
                for (int d : new int[] {0, 4, 11, 16}) {
                    left[k + d] = left[k + d] == '1' ? '0' : '1';
                }
            }
        }
        StringBuilder turned = new StringBuilder();
        for (int k = 80; k < 96; k++) {
            turned.append(left[k] == '1' ? '0' : '1');
        }
        return turned.toString();
    }

    private int timeOf(int section, int sections) {
        int[] own = entryOf(section);
        int time = 0;
        if (own[3] > 0) {
            while (section - time - 1 >= 0) {
                int[] other = entryOf(section - time - 1);
                if (other[2] != own[2] || other[3] == 0) {
                    break;
                }
                time++;
            }
            return time;
        }
        while (section + time < sections) {
            int[] other = entryOf(section + time);
            if (other[2] != own[2] || other[3] != 0) {
                break;
            }
            time++;
        }
        return time;
    }

    private String qBits(int section, int sections) {
        int[] own = entryOf(section);
        String bits = binary(own[1], 4) + "0001" + figures(own[2]) + figures(own[3])
                + timeText(timeOf(section, sections)) + "00000000" + timeText(begin + section);
        return bits + checkBits(bits);
    }

    private String besideWord(int f, int frames) {
        int r = f % 98;
        if (r == 0) {
            return "00100000000001";
        }
        if (r == 1) {
            return "00000000010010";
        }
        int section = f / 98;
        int b = entryOf(section)[3] == 0 ? 128 : 0;
        if (qBits(section, (frames + 97) / 98).charAt(r - 2) == '1') {
            b += 64;
        }
        return words[b];
    }

    int press() {
        wasPlayed = false;
        disc = null;
        pressedFrames = 0;
        if (stream.isEmpty()) {
            return 0;
        }
        int frames = (stream.size() + 23) / 24 + 111;
        int[][] all = discBytes(frames);
        List<String> symbols = new ArrayList<>();
        for (int f = 0; f < frames; f++) {
            symbols.add(SIGN);
            symbols.add(besideWord(f, frames));
            for (int i = 0; i < 32; i++) {
                symbols.add(words[all[f][i]]);
            }
        }
        disc = new StringBuilder();
        for (int k = 0; k < symbols.size(); k++) {
            if (k > 0) {
                disc.append(chooseJoint(symbols.get(k)));
            }
            disc.append(symbols.get(k));
        }
        disc.append("000");
        pressedFrames = frames;
        return frames;
    }

    private int sumUpTo;
    private int sumSoFar;
    private int levelSoFar;

    private String chooseJoint(String next) {
        if (disc.length() == 24) {
            sumUpTo = 0;
            sumSoFar = 0;
            levelSoFar = 1;
        }
        for (; sumUpTo < disc.length(); sumUpTo++) {
            levelSoFar = disc.charAt(sumUpTo) == '1' ? -levelSoFar : levelSoFar;
            sumSoFar += levelSoFar;
        }
        String best = null;
        for (int pass = 0; pass < 2 && best == null; pass++) {
            int least = 0;
            for (String joint : new String[] {"000", "001", "010", "100"}) {
                if (!mayBe(joint, next) || pass == 0 && mocks(joint, next)) {
                    continue;
                }
                int far = Math.abs(balanceWith(joint + next));
                if (best == null || far < least) {
                    best = joint;
                    least = far;
                }
            }
        }
        return best;
    }

    private int balanceWith(String more) {
        int sum = sumSoFar;
        int level = levelSoFar;
        for (int k = 0; k < more.length(); k++) {
            level = more.charAt(k) == '1' ? -level : level;
            sum += level;
        }
        return sum;
    }

    private boolean mayBe(String joint, String next) {
        String text = disc.substring(disc.lastIndexOf("1")) + joint;
        int jointEnd = text.length();
        text += next;
        int end = text.indexOf("1", jointEnd);
        String[] runs = text.substring(1, end).split("1", -1);
        for (String zeros : runs) {
            if (zeros.length() < 2 || zeros.length() > 10) {
                return false;
            }
        }
        return true;
    }

    private boolean mocks(String joint, String next) {
        String before = disc.substring(Math.max(0, disc.length() - 23));
        return next.length() == 14 && (before + joint + next).contains(SIGN);
    }

    // ---- the disc

    int frames() {
        return pressedFrames;
    }

    int length() {
        return disc == null ? 0 : disc.length();
    }

    private int number(int from, int many) {
        int n = 0;
        for (int k = from; k < from + many; k++) {
            n = 2 * n + (k < length() && disc.charAt(k) == '1' ? 1 : 0);
        }
        return n;
    }

    int bits(int i) {
        return i < 0 || i >= length() ? 0 : number(i, 32);
    }

    int word(int frame, int k) {
        return frame < 0 || frame >= pressedFrames || k < 0 || k > 32 ? -1 : number(588 * frame + 27 + 17 * k, 14);
    }

    int joint(int frame, int k) {
        return frame < 0 || frame >= pressedFrames || k < 0 || k > 33 ? -1 : number(588 * frame + 24 + 17 * k, 3);
    }

    int balance(int n) {
        if (n < 0 || n > length()) {
            return -1000000;
        }
        int level = 1;
        int sum = 0;
        for (int k = 0; k < n; k++) {
            level = disc.charAt(k) == '1' ? -level : level;
            sum += level;
        }
        return sum;
    }

    int run(boolean longest) {
        int best = -1;
        int last = -1;
        for (int k = 0; k < length(); k++) {
            if (disc.charAt(k) == '1') {
                int zeros = k - last - 1;
                if (last >= 0 && (best < 0 || (longest ? zeros > best : zeros < best))) {
                    best = zeros;
                }
                last = k;
            }
        }
        return best;
    }

    int signs() {
        int many = 0;
        for (int p = disc == null ? -1 : disc.indexOf(SIGN); p >= 0; p = disc.indexOf(SIGN, p + 1)) {
            many++;
        }
        return many;
    }

    int signAt(int i) {
        int many = 0;
        for (int p = disc == null ? -1 : disc.indexOf(SIGN); p >= 0; p = disc.indexOf(SIGN, p + 1)) {
            if (many++ == i) {
                return p;
            }
        }
        return -1;
    }

    // ---- what spoils it

    private void turn(int i) {
        disc.setCharAt(i, disc.charAt(i) == '1' ? '0' : '1');
    }

    boolean flip(int i) {
        if (i < 0 || i >= length()) {
            return false;
        }
        turn(i);
        return true;
    }

    int scratch(int frame, int many) {
        if (frame < 0 || 588L * frame >= length() || many < 0 || many > 600) {
            return -1;
        }
        int count = 0;
        for (int k = 588 * frame; k < 588 * (frame + many) && k < length(); k++) {
            disc.setCharAt(k, '0');
            count++;
        }
        return count;
    }

    int noise(int frame, int many, int seed) {
        if (frame < 0 || 588L * frame >= length() || many < 0 || many > 600) {
            return -1;
        }
        int count = 0;
        int z = seed;
        for (int k = 588 * frame; k < 588 * (frame + many) && k < length(); k++) {
            z = z * 1664525 + 1013904223;
            if (z < 0) {
                turn(k);
                count++;
            }
        }
        return count;
    }

    int slip(int i, int n) {
        if (disc == null || i < 0 || i > length() || n < -600 || n > 600 || length() + n > 360000) {
            return -1;
        }
        if (n >= 0) {
            disc.insert(i, "0".repeat(n));
        } else {
            disc.delete(i, Math.min(length(), i - n));
        }
        return length();
    }

    // ---- playing

    private boolean standsAt(int p) {
        return p >= 0 && p + 24 <= length() && disc.substring(p, p + 24).equals(SIGN);
    }

    private List<Integer> findFrames(int window) {
        List<Integer> starts = new ArrayList<>();
        int p = Math.max(0, disc.indexOf(SIGN));
        while (p < length() || starts.isEmpty()) {
            starts.add(p);
            int best = -1;
            for (int c = p + 588 - window; c <= p + 588 + window; c++) {
                if (standsAt(c) && (best < 0 || Math.abs(c - p - 588) < Math.abs(best - p - 588))) {
                    best = c;
                }
            }
            p = best < 0 ? p + 588 : best;
        }
        return starts;
    }

    int play(int inner, int outer, int window) {
        if (disc == null || inner < 0 || inner > 2 || outer < 0 || outer > 2 || window < 0 || window > 20) {
            return -1;
        }
        wasPlayed = true;
        streamFrames = pressedFrames - 111;
        List<Integer> starts = findFrames(window);
        found = starts.size();
        int[][] frames = new int[found][32];
        boolean[][] frameMarks = new boolean[found][32];
        besides = new String[found];
        unread = 0;
        for (int f = 0; f < found; f++) {
            besides[f] = binary(number(starts.get(f) + 27, 14), 14);
            for (int i = 0; i < 32; i++) {
                Integer b = bytes.get(binary(number(starts.get(f) + 27 + 17 * (i + 1), 14), 14));
                frameMarks[f][i] = b == null;
                unread += b == null ? 1 : 0;
                int value = b == null ? 0 : b;
                frames[f][i] = i >= 12 && i <= 15 || i >= 28 ? 255 - value : value;
            }
        }
        int[][] inners = new int[found][32];
        boolean[][] innerMarks = new boolean[found][32];
        innerFate = new int[found];
        for (int w = 0; w < found; w++) {
            for (int i = 0; i < 32; i++) {
                int f = i % 2 == 0 ? w + 1 : w;
                inners[w][i] = f < found ? frames[f][i] : 0;
                innerMarks[w][i] = f >= found || frameMarks[f][i];
            }
            innerFate[w] = mendWord(inners[w], innerMarks[w], 32, inner);
            Arrays.fill(innerMarks[w], innerFate[w] == -2);
        }
        playOuter(inners, innerMarks, outer);
        hideAll();
        return told(3);
    }

    private void playOuter(int[][] inners, boolean[][] innerMarks, int reach) {
        int[][] outers = new int[found][28];
        boolean[][] outerMarks = new boolean[found][28];
        outerFate = new int[found];
        worst = 0;
        for (int v = 0; v < found; v++) {
            int marks = 0;
            for (int i = 0; i < 28; i++) {
                int w = v + 4 * i;
                outers[v][i] = w < found ? inners[w][i] : 0;
                outerMarks[v][i] = w >= found || innerMarks[w][i];
                marks += outerMarks[v][i] ? 1 : 0;
            }
            worst = Math.max(worst, marks);
            outerFate[v] = mendWord(outers[v], outerMarks[v], 28, reach);
            if (outerFate[v] != -2) {
                Arrays.fill(outerMarks[v], false);
            } else if (marks <= 4) {
                Arrays.fill(outerMarks[v], true);
            }
        }
        playedBytes = new int[24 * streamFrames];
        sure = new boolean[24 * streamFrames];
        for (int frame = 0; frame < streamFrames; frame++) {
            for (int place = 0; place < 28; place++) {
                if (place >= 12 && place <= 15) {
                    continue;
                }
                int k = place < 12 ? place : place - 16;
                int sample = place < 12 ? k % 6 / 2 * 2 : k % 6 / 2 * 2 + 1;
                int i = 24 * frame + 4 * sample + 2 * (k / 6) + k % 2;
                int v = place < 12 ? frame + 2 : frame;
                playedBytes[i] = v < found ? outers[v][place] : 0;
                sure[i] = v < found && !outerMarks[v][place];
            }
        }
    }

    private void hideAll() {
        hidden = 0;
        heard = new int[2][6 * streamFrames];
        for (int side = 0; side < 2; side++) {
            int before = 0;
            for (int i = 0; i < 6 * streamFrames; i++) {
                if (sampleSure(i, side)) {
                    before = sample(i, side);
                } else {
                    hidden++;
                    if (i + 1 < 6 * streamFrames && sampleSure(i + 1, side)) {
                        before = Math.floorDiv(before + sample(i + 1, side), 2);
                    }
                }
                heard[side][i] = before;
            }
        }
    }

    private boolean sampleSure(int i, int side) {
        int at = 24 * (i / 6) + 4 * (i % 6) + 2 * side;
        return sure[at] && sure[at + 1];
    }

    private int sample(int i, int side) {
        int at = 24 * (i / 6) + 4 * (i % 6) + 2 * side;
        int n = 256 * playedBytes[at] + playedBytes[at + 1];
        return n >= 32768 ? n - 65536 : n;
    }

    int played(int i) {
        return wasPlayed && i >= 0 && i < playedBytes.length ? playedBytes[i] : -1;
    }

    boolean isSure(int i) {
        return wasPlayed && i >= 0 && i < sure.length && sure[i];
    }

    int heard(int i, boolean right) {
        return wasPlayed && i >= 0 && i < 6 * streamFrames ? heard[right ? 1 : 0][i] : 65536;
    }

    int inner(int w) {
        return wasPlayed && w >= 0 && w < found ? innerFate[w] : -1;
    }

    int outer(int v) {
        return wasPlayed && v >= 0 && v < found ? outerFate[v] : -1;
    }

    private static int failed(int[] fates) {
        int many = 0;
        for (int fate : fates) {
            many += fate == -2 ? 1 : 0;
        }
        return many;
    }

    int told(int what) {
        if (!wasPlayed) {
            return -1;
        }
        switch (what) {
            case 0: return unread;
            case 1: return failed(innerFate);
            case 2: return failed(outerFate);
            case 3:
                int unsure = 0;
                for (boolean one : sure) {
                    unsure += one ? 0 : 1;
                }
                return unsure;
            case 4: return hidden;
            case 5: return worst;
            case 6: return found;
            case 7: return sectionStarts().size();
            default: return -1;
        }
    }

    private List<Integer> sectionStarts() {
        List<Integer> starts = new ArrayList<>();
        for (int f = 0; f + 1 < found; f++) {
            if (besides[f].equals("00100000000001") && besides[f + 1].equals("00000000010010")) {
                starts.add(f);
            }
        }
        return starts;
    }

    private static int twoFigures(String bits, int from) {
        int high = Integer.parseInt(bits.substring(from, from + 4), 2);
        int low = Integer.parseInt(bits.substring(from + 4, from + 8), 2);
        return high > 9 || low > 9 ? -1 : 10 * high + low;
    }

    /** Control, track, index, time, place and pauses; null if Q is not sound. */
    private int[] soundQ(int start) {
        if (start + 98 > found) {
            return null;
        }
        StringBuilder text = new StringBuilder();
        int pauses = 0;
        for (int r = 2; r < 98; r++) {
            Integer b = bytes.get(besides[start + r]);
            if (b == null) {
                return null;
            }
            text.append(b / 64 % 2);
            pauses += b / 128;
        }
        String bits = text.toString();
        if (!checkBits(bits.substring(0, 80)).equals(bits.substring(80)) || !bits.startsWith("0001", 4)) {
            return null;
        }
        int[] n = new int[8];
        int[] from = {8, 16, 24, 32, 40, 56, 64, 72};
        for (int k = 0; k < 8; k++) {
            n[k] = twoFigures(bits, from[k]);
            if (n[k] < 0 || (k == 3 || k == 6) && n[k] >= 60 || (k == 4 || k == 7) && n[k] >= 75) {
                return null;
            }
        }
        return new int[] {Integer.parseInt(bits.substring(0, 4), 2), n[0], n[1],
            n[2] * 4500 + n[3] * 75 + n[4], n[5] * 4500 + n[6] * 75 + n[7], pauses};
    }

    int q(int s, int what) {
        if (!wasPlayed || s < 0 || s >= sectionStarts().size() || what < 0 || what > 6) {
            return -1;
        }
        int[] sound = soundQ(sectionStarts().get(s));
        if (what == 0) {
            return sound == null ? 0 : 1;
        }
        return sound == null ? -1 : sound[what - 1];
    }

    int burst(int many) {
        if (many < 1 || many > 200) {
            return -1;
        }
        int most = 0;
        for (int first = -400; first <= 400; first++) {
            int places = 0;
            for (int i = 0; i < 28; i++) {
                boolean met = false;
                for (int f = first; f < first + many; f++) {
                    met |= f == 4 * i || f == 4 * i + 1;
                }
                places += met ? 1 : 0;
            }
            most = Math.max(most, places);
        }
        return most;
    }

    // ---- words by themselves, and the bench

    int spell(int b) {
        return b < 0 || b > 255 ? -1 : Integer.parseInt(words[b], 2);
    }

    int read(int word) {
        return word < 0 || word > 16383 ? -1 : bytes.getOrDefault(binary(word, 14), -1);
    }

    int put(int i, int b) {
        if (i < 0 || i > 31 || b < 0 || b > 255) {
            return -1;
        }
        int was = bench[i];
        bench[i] = b;
        benchMarks[i] = false;
        return was;
    }

    boolean mark(int i, boolean is) {
        if (i < 0 || i > 31) {
            return false;
        }
        boolean was = benchMarks[i];
        benchMarks[i] = is;
        return was;
    }

    int at(int i) {
        return i < 0 || i > 31 ? -1 : bench[i];
    }

    void seal(boolean inner) {
        sealWord(bench, inner ? 32 : 28, inner ? 28 : 12);
        Arrays.fill(benchMarks, 0, inner ? 32 : 28, false);
    }

    int syndrome(boolean inner, int j) {
        return j < 0 || j > 3 ? -1 : sum(bench, inner ? 32 : 28, j);
    }

    int mend(boolean inner, int reach) {
        if (reach < 0 || reach > 2) {
            return -1;
        }
        int fate = mendWord(bench, benchMarks, inner ? 32 : 28, reach);
        if (fate != -2) {
            Arrays.fill(benchMarks, 0, inner ? 32 : 28, false);
        }
        return fate;
    }
}
