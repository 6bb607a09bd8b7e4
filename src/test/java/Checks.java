/** Counts answers that are as due and prints those that are not. */
final class Checks {
    private final String name;
    private int right = 0;
    private int wrong = 0;

    Checks(String name) {
        this.name = name;
    }

    void due(String what, long got, long want) {
        if (got == want) {
            right++;
        } else {
            wrong++;
            if (wrong <= 40) {
                System.out.println(name + ": " + what + " answered " + got + ", due is " + want);
            }
        }
    }

    void holds(String what, boolean so) {
        due(what, so ? 1 : 0, 1);
    }

    int wrong() {
        return wrong;
    }

    void end() {
        System.out.println(name + ": " + right + " answers as due, " + wrong + " not");
        if (wrong != 0 || right == 0) {
            System.exit(1);
        }
    }

    /** The text is emptied and written anew. */
    static void write(BesideWalk x, String text) {
        x.clear();
        for (int i = 0; i < text.length(); i++) {
            x.type(text.charAt(i));
        }
    }

    /** A process of n states, with moves as a text tells them (perhaps none). */
    static void build(BesideWalk x, int p, int n, String moves) {
        x.process(p, n);
        if (moves.isEmpty()) {
            return;
        }
        write(x, moves);
        int came = x.moves(p);
        x.clear();
        if (came < 0) {
            throw new IllegalStateException("the test's own text is faulty: " + moves + ": " + came);
        }
    }
}
