import java.util.Random;

/** Processes that differ by little, so that a fault comes late or never and many sets are met on the way to it. */
public final class WideTest {
    private static final Checks C = new Checks("WideTest");
    private static int longest = 0;

    public static void main(String[] args) {
        int runs = args.length > 0 ? Integer.parseInt(args[0]) : 150;
        for (int seed = 0; seed < runs && C.wrong() == 0; seed++) {
            run(seed);
        }
        lateFault("0a0;0b0;", 56);
        lateFault("0a0;0b0;0i0;", 56);
        System.out.println("WideTest: the longest fault word has " + longest + " letters");
        C.holds("a fault word of 56 letters was met", longest == 56);
        C.end();
    }

    /** All words are possible in the first one; the shortest that is not in the second leads through 192 sets. */
    private static void lateFault(String moves, int length) {
        String late = "0a1;0a2;0a3;0a5;0a6;0b0;1a7;1b6;2b7;3a0;3a2;3b5;4a3;4a7;4b3;5a4;5b2;6a2;6a3;6a5;6b4;7a6;7a7;7b1;";
        BesideWalk x = new BesideWalk();
        Naive y = new Naive();
        y.process(1, 8);
        for (String move : late.split(";")) {
            y.move(1, move.charAt(0) - '0', move.charAt(1) - 'a', move.charAt(2) - '0');
        }
        for (String move : moves.split(";")) {
            y.move(0, move.charAt(0) - '0', "abcdi".indexOf(move.charAt(1)), move.charAt(2) - '0');
        }
        Checks.build(x, 1, 8, late);
        Checks.build(x, 0, 1, moves);
        C.due("late fault", x.fault(0, 1, 0, -1), length);
        for (int mode = 0; mode < 3; mode++) {
            contest(-1, x, y, mode);
        }
    }

    private static void run(int seed) {
        Random random = new Random(seed);
        BesideWalk x = new BesideWalk();
        Naive y = new Naive();
        for (int p = 0; p < 2; p++) {
            x.process(p, 8);
            y.process(p, 8);
        }
        int letters = 2 + seed % 2;
        for (int i = 0; i < 24; i++) {
            int from = i % 8;
            int by = random.nextInt(12) == 0 ? 4 : i / 8 % letters;
            int to = random.nextInt(8);
            for (int p = 0; p < 2; p++) {
                C.due("move", x.move(p, from, by, to), y.move(p, from, by, to));
            }
        }
        change(random, x, y, seed % 2, letters);
        for (int mode = 0; mode < 3; mode++) {
            contest(seed, x, y, mode);
        }
        C.due("digest of " + seed, x.digest(), y.digest());
    }

    /** One move of one of the two goes. */
    private static void change(Random random, BesideWalk x, Naive y, int p, int letters) {
        int gone = 0;
        for (int i = 0; i < 1000 && gone < 1; i++) {
            int from = random.nextInt(8);
            int by = random.nextInt(letters);
            int to = random.nextInt(8);
            int left = x.unmove(p, from, by, to);
            C.due("unmove", left, y.unmove(p, from, by, to));
            gone += left >= 0 ? 1 : 0;
        }
    }

    private static void contest(int seed, BesideWalk x, Naive y, int mode) {
        for (int p = 0; p < 2; p++) {
            String call = "run " + seed + ": " + p + " against " + (1 - p) + " by " + mode;
            C.due(call, x.holds(p, 1 - p, mode), y.holds(p, 1 - p, mode));
            C.due(call + ", reason", x.reason(p, 1 - p, mode), y.reason(p, 1 - p, mode));
            int length = x.fault(p, 1 - p, mode, -1);
            C.due(call + ", length", length, y.fault(p, 1 - p, mode, -1));
            longest = Math.max(longest, length);
            for (int k = 0; k <= length; k++) {
                C.due(call + ", letter " + k, x.fault(p, 1 - p, mode, k), y.fault(p, 1 - p, mode, k));
            }
        }
    }
}
