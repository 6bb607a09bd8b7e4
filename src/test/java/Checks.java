import java.util.function.IntSupplier;

/** Counts answers that are as due and prints those that are not. */
final class Checks {
    private final String name;
    private int right = 0;
    private int wrong = 0;
    private String sentence = "";
    private int rightBefore = 0;
    private int sentences = 0;

    Checks(String name) {
        this.name = name;
    }

    /** Words of the document: what is checked from here on is their test. */
    void sentence(String words) {
        endSentence();
        sentence = words;
        rightBefore = right + wrong;
        sentences++;
    }

    private void endSentence() {
        if (sentences > 0 && rightBefore == right + wrong) {
            wrong++;
            System.out.println(name + ": without a test: " + sentence);
        }
    }

    void due(String what, long got, long want) {
        if (got == want) {
            right++;
        } else {
            wrong++;
            if (wrong <= 40) {
                String of = sentence.isEmpty() ? "" : "'" + sentence + "': ";
                System.out.println(name + ": " + of + what + " answered " + got + ", due is " + want);
            }
        }
    }

    void holds(String what, boolean so) {
        due(what, so ? 1 : 0, 1);
    }

    /** A call is refused and changes nothing but how often: the digest grows by what that one number weighs in it. */
    void refused(String what, BesideWalk x, int answer, IntSupplier call) {
        int behindIt = 5 + 4 * 12 - 1 - (BesideWalk.BAD - answer);
        for (int p = 0; p < 4; p++) {
            behindIt += 6 + 5 * x.of(p, 0);
        }
        long weight = 1;
        for (int i = 0; i < behindIt; i++) {
            weight *= 31;
        }
        long before = x.digest();
        due(what, call.getAsInt(), answer);
        due(what + ", then nothing changed but how often", x.digest(), before + weight);
    }

    void bad(String what, BesideWalk x, IntSupplier call) {
        refused(what, x, BesideWalk.BAD, call);
    }

    /** A call answers and changes nothing at all. */
    void quiet(String what, BesideWalk x, int answer, IntSupplier call) {
        long before = x.digest();
        due(what, call.getAsInt(), answer);
        due(what + ", then nothing changed", x.digest(), before);
    }

    /** A call answers and leaves a past that leads back to what was ahead of it (fewer than five stand yet). */
    void leavesPast(String what, BesideWalk x, int answer, IntSupplier call) {
        int pasts = x.told(4);
        long before = x.digest();
        due(what, call.getAsInt(), answer);
        due(what + ", then one past more", x.told(4), pasts + 1);
        due(what + ", then back", x.back(), pasts);
        due(what + ", then as before", x.digest(), before);
    }

    int wrong() {
        return wrong;
    }

    void end() {
        endSentence();
        System.out.println(name + ": " + right + " answers as due, " + wrong + " not"
            + (sentences > 0 ? ", by " + sentences + " sentences" : ""));
        if (wrong != 0 || right == 0) {
            System.exit(1);
        }
    }

    /** The text is emptied and written anew. */
    static void write(BesideWalk x, String text) {
        x.clear();
        for (int i = 0; i < text.length(); i++) {
            x.type(text.charAt(i));
        }
    }

    /** A process of n states, with moves as a text tells them (perhaps none). */
    static void build(BesideWalk x, int p, int n, String moves) {
        x.process(p, n);
        if (moves.isEmpty()) {
            return;
        }
        write(x, moves);
        int came = x.moves(p);
        x.clear();
        if (came < 0) {
            throw new IllegalStateException("the test's own text is faulty: " + moves + ": " + came);
        }
    }

    /** A new object whose process 0 is built. */
    static BesideWalk with(int n, String moves) {
        BesideWalk x = new BesideWalk();
        build(x, 0, n, moves);
        return x;
    }

    /** A new object whose processes 0 and 1 are built, to be held against one another. */
    static BesideWalk with(int n, String moves, int m, String others) {
        BesideWalk x = with(n, moves);
        build(x, 1, m, others);
        return x;
    }
}
