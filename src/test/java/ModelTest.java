import java.util.Random;

/** Runs of calls, drawn with fixed seeds, on the class and on the plain model. */
public final class ModelTest {
    private static final Tally TALLY = new Tally();

    public static void main(String[] args) {
        int from = args.length > 0 ? Integer.parseInt(args[0]) : 0;
        int to = args.length > 1 ? Integer.parseInt(args[1]) : 40;
        for (int seed = from; seed < to; seed++) {
            mixedRun(seed);
            benchRun(seed);
        }
        largestDisc();
        shortenedDisc();
        everySlip();
        everyWord();
        TALLY.end();
    }

    private static void mixedRun(int seed) {
        Random dice = new Random(seed);
        Pair both = new Pair(TALLY, "mixed " + seed);
        for (int round = 0; round < 3; round++) {
            tellBeside(both, dice);
            feedSome(both, dice);
            both.press();
            both.compareAll();
            int spoils = dice.nextInt(4);
            for (int k = 0; k <= spoils; k++) {
                for (int n = dice.nextInt(4); n > 0; n--) {
                    spoil(both, dice);
                }
                both.play(dice.nextInt(3), dice.nextInt(3), dice.nextInt(3) == 0 ? 0 : dice.nextInt(21));
                both.compareAll();
            }
            if (dice.nextInt(3) == 0) {
                both.wipe();
            }
            if (dice.nextInt(3) == 0) {
                both.plain();
            }
        }
    }

    private static void tellBeside(Pair both, Random dice) {
        if (dice.nextBoolean()) {
            both.begin(dice.nextInt(420000) - 10000);
        }
        for (int n = dice.nextInt(9); n > 0; n--) {
            both.entry(dice.nextInt(8) - 1, dice.nextInt(18) - 1, dice.nextInt(4), dice.nextInt(5) / 2);
        }
    }

    private static void feedSome(Pair both, Random dice) {
        for (int n = dice.nextInt(6); n > 0; n--) {
            both.feed(dice.nextLong(), dice.nextInt(10));
        }
        switch (dice.nextInt(4)) {
            case 0:
                break;
            case 1:
                both.fill(dice.nextInt(60) - 2, dice.nextInt());
                break;
            case 2:
                both.fill(dice.nextInt(700), dice.nextInt());
                break;
            default:
                both.fill(dice.nextInt(5000), dice.nextInt());
                break;
        }
        both.streamAt(dice.nextInt(700) - 5);
    }

    private static void spoil(Pair both, Random dice) {
        int length = Math.max(1, both.length());
        int frames = Math.max(1, both.frames());
        switch (dice.nextInt(8)) {
            case 0:
                for (int n = dice.nextInt(60); n > 0; n--) {
                    both.flip(dice.nextInt(length + 4) - 2);
                }
                break;
            case 1:
                both.scratch(dice.nextInt(frames + 4) - 2, dice.nextInt(20));
                break;
            case 2:
                both.noise(dice.nextInt(frames + 4) - 2, dice.nextInt(12), dice.nextInt());
                break;
            case 3:
                both.slip(dice.nextInt(length + 4) - 2, dice.nextInt(50) - 25);
                break;
            case 4:
                both.slip(dice.nextInt(length + 4) - 2, dice.nextInt(1300) - 650);
                break;
            case 5:
                for (int n = dice.nextInt(300); n > 0; n--) {
                    flipInWord(both, dice, frames);
                }
                break;
            case 6:
                both.slip(dice.nextInt(length), dice.nextInt(5) - 2);
                break;
            default:
                // One of the marks of a section, so that its label is lost or moved.
                both.flip(588 * dice.nextInt(frames) + 27 + dice.nextInt(14));
                break;
        }
    }

    /** A pair of flips that moves a one by a place often makes another word out of a word. */
    private static void flipInWord(Pair both, Random dice, int frames) {
        int at = 588 * dice.nextInt(frames) + 27 + 17 * dice.nextInt(33) + dice.nextInt(13);
        both.flip(at);
        both.flip(at + 1);
    }

    private static void benchRun(int seed) {
        Random dice = new Random(1000 + seed);
        Pair both = new Pair(TALLY, "bench " + seed);
        for (int round = 0; round < 120; round++) {
            boolean inner = dice.nextBoolean();
            for (int n = dice.nextInt(33); n > 0; n--) {
                both.put(dice.nextInt(34) - 1, dice.nextInt(258) - 1);
            }
            both.seal(inner);
            for (int n = dice.nextInt(4); n > 0; n--) {
                both.put(dice.nextInt(32), dice.nextInt(256));
            }
            for (int n = dice.nextInt(7); n > 0; n--) {
                int i = dice.nextInt(34) - 1;
                both.mark(i, dice.nextInt(5) > 0);
                if (dice.nextBoolean() && both.mark(i, true)) {
                    both.put(i, dice.nextInt(256));
                    both.mark(i, true);
                }
            }
            both.compareBench();
            both.mend(dice.nextInt(8) == 0 ? !inner : inner, dice.nextInt(5) - 1);
            both.compareBench();
            for (int i = 0; i < 32; i++) {
                boolean was = both.mark(i, true);
                both.mark(i, was);
            }
        }
    }

    private static void largestDisc() {
        Pair both = new Pair(TALLY, "largest");
        both.fill(11712, 7);
        both.fill(1, 7);
        both.feed(1, 1);
        both.entry(3, 2, 45, 0);
        both.entry(5, 2, 45, 1);
        both.begin(400000);
        both.press();
        both.compareDisc();
        for (int n = 0; n < 13; n++) {
            both.slip(1000 * n + 17, 600);
        }
        both.slip(5, 588);
        both.slip(5, 1);
        both.slip(360000, 0);
        both.compareDisc();
        both.scratch(0, 100);
        both.noise(500, 600, 3);
        both.compareDisc();
        both.play(2, 2, 20);
        both.comparePlayed();
    }

    /** Frames of the stream whose outer words are no longer found. */
    private static void shortenedDisc() {
        Pair both = new Pair(TALLY, "shortened");
        both.fill(24 * 40, 11);
        both.press();
        both.play(2, 2, 5);
        int slips = 0;
        while (both.length() > 0 && slips < 200) {
            both.slip(Math.max(0, both.length() - 600), -600);
            slips++;
            if (slips % 12 == 0 || both.length() < 3000) {
                both.play(2, 2, 5);
                both.comparePlayed();
            }
        }
        both.slip(0, 100);
        both.play(2, 2, 20);
        both.comparePlayed();
    }

    /** Bits that come and go at every place within a cell of 32, for every length within one. */
    private static void everySlip() {
        Random dice = new Random(5);
        Pair both = new Pair(TALLY, "slips");
        both.fill(24, 12);
        both.press();
        for (int i = 0; i < 70; i++) {
            both.slip(i, 1 + dice.nextInt(70));
            both.bits(0);
            both.bits(32);
            both.slip(i, -dice.nextInt(70));
            both.bits(64);
            both.slip(both.length() - i, 1 - 2 * dice.nextInt(2));
            both.flip(both.length() - 1);
            both.slip(40, 1);
            compareEnd(both);
        }
        both.compareDisc();
        both.scratch(0, 600);
        for (int k = 0; k < 110; k++) {
            both.flip(k);
        }
        for (int i = 0; i < 70; i++) {
            for (int n = 0; n < 2; n++) {
                both.slip(i, n == 0 ? 5 + i : -5 - i);
                for (int k = 0; k < 200; k += 32) {
                    both.bits(k);
                }
            }
        }
    }

    private static void compareEnd(Pair both) {
        for (int i = both.length() - 140; i < both.length() + 2; i += 31) {
            both.bits(i);
        }
        both.balance(both.length());
        both.run(true);
    }

    private static void everyWord() {
        Pair both = new Pair(TALLY, "words");
        for (int n = -3; n < 16400; n++) {
            both.read(n);
            both.spell(n - 70);
        }
        for (int many = -2; many < 204; many++) {
            both.burst(many);
        }
        both.read(Integer.MIN_VALUE);
        both.read(Integer.MAX_VALUE);
    }
}
