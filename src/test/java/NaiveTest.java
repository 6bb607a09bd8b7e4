import java.util.Random;

/** Many runs of calls, drawn with fixed seeds, each answered by the class and by the naive one. */
public final class NaiveTest {
    private static final Checks C = new Checks("NaiveTest");

    private final Random random;
    private final BesideWalk x = new BesideWalk();
    private final Naive y = new Naive();
    private final String run;
    private final int statesMost;
    private final int wild;

    private NaiveTest(int seed) {
        random = new Random(seed);
        run = "run " + seed + ": ";
        statesMost = 2 + seed % 7;
        wild = seed % 3 == 0 ? 4 : 40;
    }

    public static void main(String[] args) {
        int runs = args.length > 0 ? Integer.parseInt(args[0]) : 400;
        for (int seed = 0; seed < runs && C.wrong() == 0; seed++) {
            new NaiveTest(seed).go();
        }
        C.end();
    }

    private void go() {
        int calls = 0;
        while (calls < 500) {
            calls += step();
        }
        due("digest()", x.digest(), y.digest());
    }

    private void due(String call, long got, long want) {
        C.due(run + call, got, want);
    }

    /** A number of 0 .. most, now and then one that is not. */
    private int draw(int most) {
        if (random.nextInt(wild * 4) == 0) {
            int[] odd = {-1, most + 1, -2, most + 2, Integer.MIN_VALUE, Integer.MAX_VALUE, 1 << 16, -(1 << 20)};
            return odd[random.nextInt(odd.length)];
        }
        return random.nextInt(most + 1);
    }

    private int drawState(int p) {
        return draw(p >= 0 && p < 4 ? x.of(p, 0) - 1 : 1);
    }

    private int step() {
        int p = draw(3);
        int q = draw(3);
        switch (random.nextInt(26)) {
            case 0:
                return process(p);
            case 1: case 2: case 3: case 4: case 5: case 6:
                return move(p);
            case 7:
                return unmove(p);
            case 8:
                return hidesOrRenames(p);
            case 9:
                return together(p, q);
            case 10:
                if (random.nextInt(3) == 0) {
                    due("presses(" + p + ")", x.presses(p), y.presses(p));
                }
                return 1;
            case 11: case 12:
                return of(p);
            case 13: case 14:
                return alike(p, q);
            case 15: case 16:
                return textOfMoves(p);
            case 17: case 18:
                return textOfWord(p);
            case 19: case 20: case 21: case 22:
                return contest(p, q);
            case 23:
                if (random.nextInt(3) == 0) {
                    due("back()", x.back(), y.back());
                }
                return 1;
            case 24:
                int what = draw(4);
                due("told(" + what + ")", x.told(what), y.told(what));
                return 1;
            default:
                if (random.nextInt(8) == 0) {
                    due("digest()", x.digest(), y.digest());
                }
                return 1;
        }
    }

    private int process(int p) {
        int n = 1 + draw(statesMost - 1);
        if (random.nextInt(3) > 0) {
            n = statesMost;
        }
        due("process(" + p + ", " + n + ")", x.process(p, n), y.process(p, n));
        return 1;
    }

    private int move(int p) {
        int from = drawState(p);
        int by = draw(4);
        int to = drawState(p);
        due("move(" + p + ", " + from + ", " + by + ", " + to + ")", x.move(p, from, by, to), y.move(p, from, by, to));
        return 2;
    }

    private int unmove(int p) {
        int from = drawState(p);
        int by = draw(4);
        int to = drawState(p);
        due("unmove(" + p + ", " + from + ", " + by + ", " + to + ")",
            x.unmove(p, from, by, to), y.unmove(p, from, by, to));
        return 2;
    }

    private int hidesOrRenames(int p) {
        int a = draw(3);
        int b = draw(3);
        if (random.nextBoolean()) {
            int set = 1 << (a & 3);
            if (random.nextInt(4) == 0) {
                set = draw(15);
            }
            due("hides(" + p + ", " + set + ")", x.hides(p, set), y.hides(p, set));
        } else {
            due("renames(" + p + ", " + a + ", " + b + ")", x.renames(p, a, b), y.renames(p, a, b));
        }
        return 1;
    }

    private int together(int p, int q) {
        int set = draw(15);
        int r = draw(3);
        due("together(" + p + ", " + q + ", " + set + ", " + r + ")",
            x.together(p, q, set, r), y.together(p, q, set, r));
        return 1;
    }

    private int of(int p) {
        int what = draw(5);
        due("of(" + p + ", " + what + ")", x.of(p, what), y.of(p, what));
        int s = drawState(p);
        int by = draw(4);
        due("leads(" + p + ", " + s + ", " + by + ")", x.leads(p, s, by), y.leads(p, s, by));
        return 3;
    }

    private int alike(int p, int q) {
        int s = drawState(p);
        int t = drawState(q);
        due("alike(" + p + ", " + s + ", " + q + ", " + t + ")", x.alike(p, s, q, t), y.alike(p, s, q, t));
        return 3;
    }

    private int textOfMoves(int p) {
        StringBuilder text = new StringBuilder();
        int number = random.nextInt(random.nextInt(6) == 0 ? 26 : 6);
        int states = p >= 0 && p < 4 ? x.of(p, 0) : 3;
        for (int i = 0; i < number; i++) {
            text.append((char) ('0' + random.nextInt(states)));
            text.append("abcdi".charAt(random.nextInt(5)));
            text.append((char) ('0' + random.nextInt(states)));
            text.append(';');
        }
        int calls = write(spoil(text, "0123abcdi; e9"));
        due("moves(" + p + ") of " + text, x.moves(p), y.moves(p));
        return calls + 2;
    }

    private int textOfWord(int p) {
        StringBuilder text = new StringBuilder();
        int number = random.nextInt(random.nextInt(8) == 0 ? 24 : 6);
        for (int i = 0; i < number; i++) {
            text.append("abcd".charAt(random.nextInt(4)));
        }
        int calls = write(spoil(text, "abcdei0"));
        for (int i = 0; i < 4; i++) {
            int what = random.nextInt(8) == 0 ? draw(3) : i;
            due("behind(" + p + ", " + what + ") of '" + text + "'", x.behind(p, what), y.behind(p, what));
        }
        return calls + 4;
    }

    /** Blanks come in; now and then a byte changes, goes or comes. */
    private String spoil(StringBuilder text, String bytes) {
        while (random.nextInt(3) == 0) {
            text.insert(random.nextInt(text.length() + 1), ' ');
        }
        if (text.length() > 0 && random.nextInt(4) == 0) {
            int at = random.nextInt(text.length());
            char c = random.nextInt(6) == 0 ? (char) random.nextInt(128) : bytes.charAt(random.nextInt(bytes.length()));
            switch (random.nextInt(3)) {
                case 0:
                    text.setCharAt(at, c);
                    break;
                case 1:
                    text.deleteCharAt(at);
                    break;
                default:
                    text.insert(at, c);
            }
        }
        return text.toString();
    }

    private int write(String text) {
        due("clear()", x.clear(), y.clear());
        for (int i = 0; i < text.length(); i++) {
            int c = random.nextInt(200) == 0 ? draw(127) : text.charAt(i);
            due("type(" + c + ")", x.type(c), y.type(c));
        }
        return text.length() + 1;
    }

    private int contest(int p, int q) {
        int mode = draw(2);
        String call = "(" + p + ", " + q + ", " + mode;
        due("holds" + call + ")", x.holds(p, q, mode), y.holds(p, q, mode));
        due("reason" + call + ")", x.reason(p, q, mode), y.reason(p, q, mode));
        for (int k = -1; k < 4; k++) {
            int at = random.nextInt(20) == 0 ? draw(30) : k;
            due("fault" + call + ", " + at + ")", x.fault(p, q, mode, at), y.fault(p, q, mode, at));
        }
        return 7;
    }
}
