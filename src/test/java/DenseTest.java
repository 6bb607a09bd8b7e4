import java.util.Random;

/** Small processes drawn with fixed seeds, each asked for all that can be asked, by the class and by the naive one. */
public final class DenseTest {
    private static final Checks C = new Checks("DenseTest");
    private static final String[] WORDS = {"", "a", "b", "c", "aa", "ab", "ba", "ca", "abc"};

    private final Random random;
    private final BesideWalk x = new BesideWalk();
    private final Naive y = new Naive();
    private final String run;

    private DenseTest(int seed) {
        random = new Random(seed);
        run = "run " + seed + ": ";
    }

    public static void main(String[] args) {
        int runs = args.length > 0 ? Integer.parseInt(args[0]) : 1500;
        for (int seed = 0; seed < runs && C.wrong() == 0; seed++) {
            new DenseTest(seed).go();
        }
        C.end();
    }

    private void go() {
        for (int p = 0; p < 2; p++) {
            int n = 2 + random.nextInt(4);
            due("process", x.process(p, n), y.process(p, n));
            int moves = n + random.nextInt(2 * n);
            int kinds = 1 + random.nextInt(4);
            for (int i = 0; i < moves; i++) {
                int by = random.nextInt(3) == 0 ? 4 : random.nextInt(kinds);
                int from = random.nextInt(n);
                int to = random.nextInt(n);
                due("move", x.move(p, from, by, to), y.move(p, from, by, to));
            }
        }
        behind();
        alikes();
        contests();
        changes();
        due("digest", x.digest(), y.digest());
    }

    private void due(String call, long got, long want) {
        C.due(run + call, got, want);
    }

    private void behind() {
        for (String word : WORDS) {
            due("clear", x.clear(), y.clear());
            for (int i = 0; i < word.length(); i++) {
                due("type", x.type(word.charAt(i)), y.type(word.charAt(i)));
            }
            for (int p = 0; p < 2; p++) {
                for (int what = 0; what < 4; what++) {
                    due("behind " + p + " '" + word + "' " + what, x.behind(p, what), y.behind(p, what));
                }
            }
        }
    }

    private void alikes() {
        for (int s = 0; s < y.of(0, 0); s++) {
            for (int t = 0; t < y.of(1, 0); t++) {
                due("alike " + s + ", " + t, x.alike(0, s, 1, t), y.alike(0, s, 1, t));
            }
            due("alike to 0: " + s, x.alike(0, s, 0, 0), y.alike(0, s, 0, 0));
        }
    }

    private void contests() {
        for (int p = 0; p < 2; p++) {
            for (int mode = 0; mode < 3; mode++) {
                String call = p + " by " + mode;
                due("holds " + call, x.holds(p, 1 - p, mode), y.holds(p, 1 - p, mode));
                due("reason " + call, x.reason(p, 1 - p, mode), y.reason(p, 1 - p, mode));
                for (int k = -1; k < 4; k++) {
                    due("fault " + call + ", " + k, x.fault(p, 1 - p, mode, k), y.fault(p, 1 - p, mode, k));
                }
            }
        }
    }

    private void changes() {
        int set = random.nextInt(16);
        due("together", x.together(0, 1, set, 2), y.together(0, 1, set, 2));
        due("digest behind together", x.digest(), y.digest());
        due("together", x.together(1, 0, 15, 3), y.together(1, 0, 15, 3));
        for (int p = 0; p < 4; p++) {
            due("presses " + p, x.presses(p), y.presses(p));
            for (int s = 0; s < y.of(p, 0); s++) {
                for (int by = 0; by < 5; by++) {
                    due("leads " + p + " " + s + " " + by, x.leads(p, s, by), y.leads(p, s, by));
                }
            }
            due("of " + p, x.of(p, 1), y.of(p, 1));
        }
        due("hides", x.hides(0, set), y.hides(0, set));
        due("renames", x.renames(1, 0, 1), y.renames(1, 0, 1));
        for (int what = 0; what < 6; what++) {
            due("of 0 " + what, x.of(0, what), y.of(0, what));
            due("of 1 " + what, x.of(1, what), y.of(1, what));
        }
    }
}
