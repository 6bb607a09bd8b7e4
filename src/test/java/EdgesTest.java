import java.util.function.IntUnaryOperator;

/** The sentences of the document's promises 1 to 21, and around them, that name an edge, each with a test of its own. */
public final class EdgesTest {
    private static final Checks C = new Checks("EdgesTest");

    public static void main(String[] args) {
        manyCalls();
        constants();
        newObject();
        process();
        move();
        unmove();
        hides();
        renames();
        together();
        togetherFullOfStates();
        togetherFullOfMoves();
        presses();
        of();
        leads();
        alike();
        type();
        clear();
        moves();
        behind();
        behindStable();
        holds();
        fault();
        reason();
        back();
        told();
        digest();
        C.end();
    }

    /** A number that has a least and a most: both are taken, one below and one above, and far ones, are BAD. */
    private static void range(String what, BesideWalk x, int least, int most, IntUnaryOperator call) {
        int[] outside = {least - 1, most + 1, most + 1000, Integer.MIN_VALUE, Integer.MAX_VALUE};
        for (int v : outside) {
            C.bad(what + " " + v, x, () -> call.applyAsInt(v));
        }
        for (int v = least; v <= most; v += Math.max(1, most - least)) {
            int bads = x.told(0);
            int answer = call.applyAsInt(v);
            C.holds(what + " " + v + " is not BAD", answer != -2 && x.told(0) == bads);
        }
    }

    private static void manyCalls() {
        C.sentence("An object is used for at most 512 calls after it has been made");
        BesideWalk x = new BesideWalk();
        for (int i = 0; i < 510; i++) {
            C.due("call " + (i + 1), x.process(0, 1 + i % 8), i == 0 ? 1 : 1 + (i - 1) % 8);
        }
        C.due("call 511", x.told(4), 5);
        C.due("call 512", x.back(), 4);
        BesideWalk y = new BesideWalk();
        for (int i = 0; i < 511; i++) {
            y.type(-1);
        }
        C.due("refused ones are calls, too", y.told(0), 511);
    }

    private static void constants() {
        C.sentence("public static final int NONE = -1, BAD = -2, NO = -3, FULL = -4");
        C.due("NONE", BesideWalk.NONE, -1);
        C.due("BAD", BesideWalk.BAD, -2);
        C.due("NO", BesideWalk.NO, -3);
        C.due("FULL", BesideWalk.FULL, -4);
    }

    private static void newObject() {
        C.sentence("BesideWalk(): As told.");
        BesideWalk x = new BesideWalk();
        for (int what = 0; what < 5; what++) {
            C.due("told " + what, x.told(what), 0);
        }
        int[] figures = {1, 0, 0, 0, 1, 0};
        for (int p = 0; p < 4; p++) {
            for (int what = 0; what < 6; what++) {
                C.due("of " + what, x.of(p, what), figures[what]);
            }
        }
        x.process(0, 7);
        x.type('a');
        x.told(9);
        BesideWalk other = new BesideWalk();
        C.due("one object has nothing of another one", other.of(0, 0), 1);
        C.due("one object has nothing of another one", other.told(0) + other.told(3) + other.told(4), 0);
        C.due("nor the first of the second", x.of(0, 0), 7);
    }

    private static void process() {
        C.sentence("A PROCESS has n STATES, no MOVES: how many STATES it had. S. BAD.");
        BesideWalk x = Checks.with(8, "7a7;0i7;");
        C.due("fewer", x.process(0, 1), 8);
        C.due("no moves", x.of(0, 1), 0);
        C.due("more", x.process(0, 8), 1);
        C.due("those that went do not come back", x.leads(0, 7, 0) + x.leads(0, 0, 4), 0);
        C.due("as many", x.process(0, 8), 8);
        BesideWalk y = new BesideWalk();
        range("p", y, 0, 3, p -> y.process(p, 2));
        range("n", y, 1, 8, n -> y.process(0, n));
        C.bad("all wrong at once: one BAD", y, () -> y.process(4, 9));
        BesideWalk z = new BesideWalk();
        C.leavesPast("S", z, 1, () -> z.process(3, 8));
    }

    private static void move() {
        C.sentence("A MOVE comes: how many MOVES there are. S. BAD; NO: it stands already; FULL: 24.");
        BesideWalk x = new BesideWalk();
        x.process(0, 8);
        C.due("the first", x.move(0, 7, 4, 7), 1);
        C.refused("NO", x, -3, () -> x.move(0, 7, 4, 7));
        C.due("another from", x.move(0, 6, 4, 7), 2);
        C.due("another letter", x.move(0, 7, 3, 7), 3);
        C.due("another to", x.move(0, 7, 4, 6), 4);
        C.due("the other way round", x.move(0, 7, 4, 0) + x.move(0, 0, 4, 7), 11);
        C.due("another process counts its own", x.move(1, 0, 0, 0), 1);
        for (int i = 6; i < 24; i++) {
            C.due("up to 24", x.move(0, i % 8, i / 8, i % 8), i + 1);
        }
        C.refused("FULL", x, -4, () -> x.move(0, 0, 3, 1));
        C.refused("NO goes ahead of FULL", x, -3, () -> x.move(0, 7, 4, 7));
        C.due("back: there is room", x.back(), 4);
        C.due("back: there is room", x.move(0, 0, 3, 1), 24);
        BesideWalk y = new BesideWalk();
        y.process(0, 8);
        range("p", y, 0, 3, p -> y.move(p, 0, 0, 0));
        range("from", y, 0, 7, from -> y.move(0, from, 1, 1));
        range("by", y, 0, 4, by -> y.move(0, 2, by, 2));
        range("to", y, 0, 7, to -> y.move(0, 3, 3, to));
    }

    private static void unmove() {
        C.sentence("A MOVE goes: how many are left. S. BAD; NO: it does not stand.");
        BesideWalk x = Checks.with(8, "7i7;0a1;0a2;");
        C.refused("another from", x, -3, () -> x.unmove(0, 6, 4, 7));
        C.refused("another letter", x, -3, () -> x.unmove(0, 7, 3, 7));
        C.refused("another to", x, -3, () -> x.unmove(0, 7, 4, 6));
        C.refused("the other way round", x, -3, () -> x.unmove(0, 1, 0, 0));
        C.refused("of another process", x, -3, () -> x.unmove(1, 0, 0, 0));
        C.due("two left", x.unmove(0, 7, 4, 7), 2);
        C.refused("it is gone", x, -3, () -> x.unmove(0, 7, 4, 7));
        C.due("one left", x.unmove(0, 0, 0, 1), 1);
        C.due("the other one stands", x.leads(0, 0, 0), 4);
        C.due("none left", x.unmove(0, 0, 0, 2), 0);
        C.due("it may come again", x.move(0, 0, 0, 2), 1);
        BesideWalk y = new BesideWalk();
        y.process(0, 8);
        range("p", y, 0, 3, p -> y.unmove(p, 0, 0, 0));
        range("from", y, 0, 7, from -> y.unmove(0, from, 1, 1));
        range("by", y, 0, 4, by -> y.unmove(0, 2, by, 2));
        range("to", y, 0, 7, to -> y.unmove(0, 3, 3, to));
    }

    private static void hides() {
        C.sentence("MOVES by LETTERS of a set (bits) become SILENT (like ones stand once):"
            + " how many MOVES there are then. S. BAD.");
        String all = "0a1;0b1;0c1;0d1;1a0;";
        int[] left = {5, 5, 5, 4, 5, 4, 4, 3, 5, 4, 4, 3, 4, 3, 3, 2};
        for (int set = 0; set < 16; set++) {
            BesideWalk x = Checks.with(2, all);
            C.due("set " + set, x.hides(0, set), left[set]);
            C.due("letters left, set " + set, x.of(0, 3), 15 - set);
            C.due("silent ones, set " + set, x.of(0, 2), (set == 0 ? 0 : 1) + set % 2);
        }
        BesideWalk x = Checks.with(2, all + "0i1;");
        C.due("like one that was silent before", x.hides(0, 2), 5);
        C.due("all silent: the rest", x.hides(0, 15), 2);
        C.due("all silent: again", x.hides(0, 15), 2);
        C.due("another process stays", x.of(1, 1), 0);
        range("p", x, 0, 3, p -> x.hides(p, 0));
        range("set", x, 0, 15, set -> x.hides(0, set));
    }

    private static void renames() {
        C.sentence("MOVES by LETTER a become such by LETTER b (like ones stand once):"
            + " how many MOVES there are then. S. BAD.");
        BesideWalk x = Checks.with(2, "0a1;0b1;0c0;1a0;1i0;");
        C.due("a letter to itself", x.renames(0, 0, 0), 5);
        C.due("a letter to itself: it stays", x.leads(0, 0, 0), 2);
        C.due("like ones once", x.renames(0, 0, 1), 4);
        C.due("a is gone", x.of(0, 3), 6);
        C.due("b is both", x.leads(0, 0, 1) + x.leads(0, 1, 1), 3);
        C.due("silent ones stay", x.leads(0, 1, 4), 1);
        C.due("one that is not there", x.renames(0, 3, 2), 4);
        C.due("to one that is not there", x.renames(0, 2, 3), 4);
        C.due("to one that is not there", x.leads(0, 0, 3), 1);
        range("p", x, 0, 3, p -> x.renames(p, 0, 1));
        range("a", x, 0, 3, a -> x.renames(0, a, 1));
        range("b", x, 0, 3, b -> x.renames(0, 1, b));
        C.bad("SILENT is no LETTER", x, () -> x.renames(0, 4, 0));
        C.bad("SILENT is no LETTER", x, () -> x.renames(0, 0, 4));
    }

    private static void together() {
        C.sentence("TOGETHER p, q by a set (bits) becomes r (p and q as they are now, also if r is one of them):"
            + " how many STATES. S. BAD");
        String one = "0a1;1b0;";
        String other = "0a1;1a2;2c0;";
        for (int r = 0; r < 4; r++) {
            int into = r;
            BesideWalk x = Checks.with(2, one, 3, other);
            Checks.build(x, 2, 8, "7a7;");
            C.due("by a, r " + r, x.together(0, 1, 1, into), 6);
            C.due("(0,0) a (1,1)", x.leads(into, 0, 0), 2);
            C.due("(1,1) b (0,1)", x.leads(into, 1, 1), 4);
            C.due("(0,1) a (1,2)", x.leads(into, 2, 0), 8);
            C.due("(1,2) b (0,2)", x.leads(into, 3, 1), 16);
            C.due("(1,2) c (1,0)", x.leads(into, 3, 2), 32);
            C.due("(0,2) c (0,0)", x.leads(into, 4, 2), 1);
            C.due("(1,0) b (0,0)", x.leads(into, 5, 1), 1);
            C.due("moves", x.of(into, 1), 7);
            C.due("p", x.of(0, 0), r == 0 ? 6 : 2);
            C.due("q", x.of(1, 0), r == 1 ? 6 : 3);
            C.due("the third one", x.of(2, 0), r == 2 ? 6 : 8);
        }
        BesideWalk x = Checks.with(2, one);
        C.due("p, q, r are one", x.together(0, 0, 3, 0), 2);
        C.due("p, q, r are one", x.of(0, 1), 2);
        C.due("q is r, alone", x.together(1, 0, 0, 0), 2);
        range("p", x, 0, 3, p -> x.together(p, 1, 15, 2));
        range("q", x, 0, 3, q -> x.together(1, q, 15, 2));
        range("set", x, 0, 15, set -> x.together(1, 1, set, 2));
        range("r", x, 0, 3, r -> x.together(1, 1, 15, r));
    }

    private static void togetherFullOfStates() {
        C.sentence("FULL: it would have more than 8 STATES");
        BesideWalk x = Checks.with(4, "0a1;1a2;2a3;", 2, "0b1;");
        C.due("8", x.together(0, 1, 0, 2), 8);
        C.due("8", x.of(2, 1), 10);
        Checks.build(x, 1, 3, "0b1;");
        C.due("pairs that are not found do not count", x.together(0, 1, 0, 2), 8);
        Checks.build(x, 0, 3, "0a1;1a2;");
        Checks.build(x, 1, 3, "0b1;1b2;");
        C.refused("9", x, -4, () -> x.together(0, 1, 0, 2));
        C.refused("9, r is p", x, -4, () -> x.together(0, 1, 0, 0));
        C.due("by a set fewer are found", x.together(0, 1, 2, 2), 3);
        Checks.build(x, 0, 8, "0a1;0a2;0a3;0a4;0a5;0a6;0a7;");
        C.due("8 at once", x.together(0, 3, 0, 2), 8);
        Checks.build(x, 1, 2, "0i1;");
        C.refused("16", x, -4, () -> x.together(0, 1, 0, 2));
        C.refused("16, the other way round", x, -4, () -> x.together(1, 0, 0, 2));
        C.refused("64", x, -4, () -> x.together(0, 0, 0, 2));
        C.refused("more than 8 by a letter of the set", x, -4, () -> x.together(0, 0, 1, 2));
    }

    private static void togetherFullOfMoves() {
        C.sentence("FULL: it would have more than ... 24 MOVES");
        BesideWalk x = Checks.with(4, "0a1;1a2;2a3;3a0;0c2;1c3;2c0;3c1;", 2, "0b1;1b0;");
        C.due("24", x.together(0, 1, 0, 2), 8);
        C.due("24", x.of(2, 1), 24);
        x.move(1, 0, 1, 0);
        C.refused("28", x, -4, () -> x.together(0, 1, 0, 2));
        x.back();
        C.due("24 again", x.together(0, 1, 0, 3), 8);
        Checks.build(x, 0, 5, "0a0;0a1;0a2;0a3;0a4;1a0;1a1;1a2;1a3;1a4;2a0;2a1;2a2;2a3;2a4;3a0;3a1;3a2;3a3;3a4;");
        x.move(0, 4, 0, 0);
        x.move(0, 4, 0, 1);
        x.move(0, 4, 0, 2);
        x.move(0, 4, 0, 3);
        x.process(1, 1);
        C.due("24 of one", x.together(0, 1, 0, 2), 5);
        x.move(1, 0, 0, 0);
        C.refused("29, less those that are like others: 25", x, -4, () -> x.together(0, 1, 0, 2));
        C.due("by both: 24", x.together(0, 1, 1, 2), 5);
        x.unmove(0, 4, 0, 0);
        C.due("23 and 5, less those that are like others: 24", x.together(0, 1, 0, 2), 5);
        C.due("each stands once", x.of(2, 1), 24);
    }

    private static void presses() {
        C.sentence("A PROCESS is PRESSED: how many STATES it has then. S. BAD.");
        BesideWalk x = Checks.with(8, "0a1;1a2;2a3;3a4;4a5;5a6;6a7;7b0;");
        C.due("eight stay", x.presses(0), 8);
        C.due("a new one", x.presses(1), 1);
        Checks.build(x, 0, 8, "0a7;0b6;7c0;6c0;");
        C.due("two stay", x.presses(0), 2);
        C.due("pressed again", x.presses(0), 2);
        C.due("moves", x.of(0, 1), 3);
        C.due("as before", x.back(), 4);
        C.due("as before", x.back(), 3);
        C.due("as before", x.of(0, 0), 8);
        C.due("as before", x.leads(0, 0, 0), 128);
        range("p", x, 0, 3, x::presses);
    }

    private static void of() {
        C.sentence("Of a PROCESS: STATES (what 0), MOVES (1), SILENT ones (2), LETTERS of MOVES (3, bits),"
            + " STABLE STATES (4, bits), LOST ones (5, bits). BAD.");
        BesideWalk x = Checks.with(8, "0a0;0a1;7d0;6i7;5i5;5i6;");
        int[] figures = {8, 6, 3, 9, 255 - 64 - 32, 32};
        for (int what = 0; what < 6; what++) {
            C.quiet("what " + what, x, figures[what], questionOf(x, what));
        }
        range("p", x, 0, 3, p -> x.of(p, 5));
        range("what", x, 0, 5, what -> x.of(0, what));
        x.hides(0, 15);
        C.due("no letters", x.of(0, 3), 0);
        C.due("all silent", x.of(0, 2), x.of(0, 1));
        x.process(0, 8);
        C.due("bits of all states", x.of(0, 4), 255);
        x.process(0, 1);
        C.due("bits of one state", x.of(0, 4), 1);
    }

    private static java.util.function.IntSupplier questionOf(BesideWalk x, int what) {
        return () -> x.of(0, what);
    }

    private static void leads() {
        C.sentence("STATES to which a STATE has MOVES by a LETTER (0 .. 3), SILENTLY (4), as bits. BAD.");
        BesideWalk x = Checks.with(8, "7d0;7d7;7i0;0a0;0a1;0a2;0a3;0a4;0a5;0a6;0a7;");
        C.quiet("all", x, 255, () -> x.leads(0, 0, 0));
        C.quiet("first and last", x, 129, () -> x.leads(0, 7, 3));
        C.quiet("silently", x, 1, () -> x.leads(0, 7, 4));
        C.quiet("none", x, 0, () -> x.leads(0, 7, 0));
        C.quiet("not silently on", x, 0, () -> x.leads(0, 6, 4));
        range("p", x, 0, 3, p -> x.leads(p, 0, 0));
        range("from", x, 0, 7, from -> x.leads(0, from, 0));
        range("by", x, 0, 4, by -> x.leads(0, 0, by));
        x.process(0, 7);
        C.bad("a state that went", x, () -> x.leads(0, 7, 0));
        x.back();
        C.due("and came back", x.leads(0, 7, 3), 129);
    }

    private static void alike() {
        C.sentence("Whether STATE s of p and STATE t of q are ALIKE: 1, 0. BAD.");
        BesideWalk x = Checks.with(8, "0a7;7b0;3b4;", 2, "0a1;1b0;");
        C.quiet("of two", x, 1, () -> x.alike(0, 0, 1, 0));
        C.quiet("of two", x, 1, () -> x.alike(0, 7, 1, 1));
        C.quiet("of two", x, 0, () -> x.alike(0, 7, 1, 0));
        C.quiet("of one", x, 1, () -> x.alike(0, 6, 0, 5));
        C.quiet("of one", x, 0, () -> x.alike(0, 3, 0, 7));
        C.quiet("itself", x, 1, () -> x.alike(0, 3, 0, 3));
        C.due("also one that can not be got to", x.alike(0, 6, 2, 0), 1);
        range("p", x, 0, 3, p -> x.alike(p, 0, 1, 0));
        range("s", x, 0, 7, s -> x.alike(0, s, 1, 0));
        range("q", x, 0, 3, q -> x.alike(1, 0, q, 0));
        range("t", x, 0, 7, t -> x.alike(1, 0, 0, t));
        C.bad("s is one of p's, not of q's", x, () -> x.alike(1, 2, 0, 2));
        C.bad("t is one of q's, not of p's", x, () -> x.alike(0, 2, 1, 2));
    }

    private static void type() {
        C.sentence("A byte (0 .. 127) comes behind THE TEXT: how many it has. BAD; FULL: 100.");
        BesideWalk x = new BesideWalk();
        range("c", x, 0, 127, x::type);
        C.due("two came", x.told(3), 2);
        for (int i = 3; i <= 100; i++) {
            C.due("the " + i + "th", x.type(i), i);
        }
        C.refused("FULL", x, -4, () -> x.type(0));
        C.refused("FULL", x, -4, () -> x.type(127));
        C.bad("BAD goes ahead of FULL", x, () -> x.type(-1));
        C.bad("BAD goes ahead of FULL", x, () -> x.type(128));
        C.due("no past", x.told(4), 0);
    }

    private static void clear() {
        C.sentence("THE TEXT is empty: how many it had.");
        BesideWalk x = new BesideWalk();
        C.quiet("of an empty one", x, 0, x::clear);
        x.type('a');
        C.due("of one", x.clear(), 1);
        C.due("then none", x.told(3), 0);
        C.quiet("again", x, 0, x::clear);
        Checks.write(x, "b".repeat(100));
        C.due("of a full one", x.clear(), 100);
        C.due("then none", x.clear(), 0);
        C.due("the word is empty", x.behind(0, 0), 1);
        C.due("no past", x.told(4), 0);
    }

    private static void moves() {
        C.sentence("MOVES of THE TEXT (which stays) come to a PROCESS: how many. S. BAD; -10 less the FAULT: all stays.");
        BesideWalk x = new BesideWalk();
        x.process(0, 2);
        Checks.write(x, "0a1;1i0;");
        C.leavesPast("two come", x, 2, () -> x.moves(0));
        C.due("the text stays: they come again", x.moves(0), 2);
        C.due("the text stays", x.told(3), 8);
        C.due("a", x.leads(0, 0, 0), 2);
        C.due("i", x.leads(0, 1, 4), 1);
        Checks.write(x, "0d0;");
        C.due("one comes to two", x.moves(0), 1);
        C.due("three there are", x.of(0, 1), 3);
        Checks.write(x, "1a1;1b1;1c1;1c2;");
        C.quiet("a fault behind three right ones: none comes", x, -24, () -> x.moves(0));
        C.quiet("another process has fewer states", x, -10, () -> x.moves(1));
        C.due("the text stays by a fault", x.told(3), 16);
        range("p", x, 0, 3, x::moves);
        C.bad("BAD goes ahead of the FAULT", x, () -> x.moves(4));
    }

    private static void behind() {
        C.sentence("BEHIND THE TEXT as a WORD, in a PROCESS: STATES (what 0, bits),"
            + " LETTERS that are POSSIBLE next (1, bits), ... whether one there is LOST (3: 1, 0). BAD; -10 less the FAULT.");
        BesideWalk x = Checks.with(8, "0a7;0a6;7i5;5i5;6b0;5d0;3c3;");
        Checks.write(x, "a");
        C.quiet("states", x, 32 + 64 + 128, () -> x.behind(0, 0));
        C.quiet("next: b, d", x, 10, () -> x.behind(0, 1));
        C.quiet("lost", x, 1, () -> x.behind(0, 3));
        Checks.write(x, "ab");
        C.due("states", x.behind(0, 0), 1);
        C.due("next", x.behind(0, 1), 1);
        C.due("lost", x.behind(0, 3), 0);
        Checks.write(x, "aa");
        for (int what = 0; what < 4; what++) {
            C.due("behind what is not possible, what " + what, x.behind(0, what), what == 2 ? -1 : 0);
        }
        range("p", x, 0, 3, p -> x.behind(p, 0));
        range("what", x, 0, 3, what -> x.behind(0, what));
        Checks.write(x, "a?");
        for (int what = 0; what < 4; what++) {
            int which = what;
            C.quiet("a fault, what " + what, x, -11, () -> x.behind(0, which));
        }
        C.bad("BAD goes ahead of the FAULT", x, () -> x.behind(0, 4));
        C.bad("BAD goes ahead of the FAULT", x, () -> x.behind(4, 0));
    }

    private static void behindStable() {
        C.sentence("of all STABLE ones there the fewest LETTERS that one OFFERS (2; NONE: none is STABLE)");
        C.due("one without letters: 0", new BesideWalk().behind(0, 2), 0);
        C.due("one of four", Checks.with(1, "0a0;0b0;0c0;0d0;").behind(0, 2), 4);
        C.due("none is stable", Checks.with(2, "0i0;0a1;").behind(0, 2), -1);
        C.due("not those that are not stable", Checks.with(2, "0i1;1a0;1b0;").behind(0, 2), 2);
        C.due("the fewest of three", Checks.with(4, "0i1;0i2;0i3;1a0;1b0;1c0;2d0;3a0;3b0;").behind(0, 2), 1);
        C.due("the fewest is the last", Checks.with(4, "0i1;0i2;0i3;1a0;1b0;1c0;2d0;").behind(0, 2), 0);
        C.due("letters, not moves", Checks.with(2, "0a0;0a1;").behind(0, 2), 1);
        C.due("only those there", Checks.with(3, "0a1;0b1;").behind(0, 2), 2);
    }

    private static void holds() {
        C.sentence("Whether p HOLDS against q by a MODE (0 .. 2): 1, 0. BAD.");
        BesideWalk x = Checks.with(2, "0a1;1i1;", 2, "0a1;");
        C.quiet("by 0", x, 1, () -> x.holds(0, 1, 0));
        C.quiet("by 1", x, 1, () -> x.holds(0, 1, 1));
        C.quiet("by 2", x, 0, () -> x.holds(0, 1, 2));
        C.quiet("the other way round by 0", x, 1, () -> x.holds(1, 0, 0));
        C.quiet("the other way round by 1", x, 0, () -> x.holds(1, 0, 1));
        C.quiet("the other way round by 2", x, 0, () -> x.holds(1, 0, 2));
        for (int mode = 0; mode < 3; mode++) {
            C.due("with itself by " + mode, x.holds(0, 0, mode), 1);
        }
        range("p", x, 0, 3, p -> x.holds(p, 1, 2));
        range("q", x, 0, 3, q -> x.holds(1, q, 2));
        range("mode", x, 0, 2, mode -> x.holds(0, 1, mode));
    }

    private static void fault() {
        C.sentence("FAULT WORD of p against q by a MODE: how many LETTERS (k NONE), the k-th (0 on; 0 .. 3);"
            + " -5: not so many. BAD: k below -1, too; NO: it HOLDS.");
        BesideWalk x = Checks.with(5, "0d1;1c2;2b3;3a4;", 4, "0d1;1c2;2b3;");
        C.quiet("how many", x, 4, () -> x.fault(0, 1, 0, BesideWalk.NONE));
        for (int k = 0; k < 4; k++) {
            C.due("letter " + k, x.fault(0, 1, 0, k), 3 - k);
        }
        C.quiet("not so many is no refusal", x, -5, () -> x.fault(0, 1, 0, 4));
        C.quiet("not so many is no refusal", x, -5, () -> x.fault(0, 1, 0, Integer.MAX_VALUE));
        C.bad("k -2", x, () -> x.fault(0, 1, 0, -2));
        C.bad("k far below", x, () -> x.fault(0, 1, 0, Integer.MIN_VALUE));
        for (int k : new int[] {-1, 0, 4, Integer.MAX_VALUE}) {
            C.refused("NO, k " + k, x, -3, () -> x.fault(1, 0, 0, k));
        }
        C.bad("BAD goes ahead of NO", x, () -> x.fault(1, 0, 0, -2));
        C.refused("NO with itself", x, -3, () -> x.fault(0, 0, 2, 0));
        Checks.build(x, 2, 1, "0i0;");
        C.due("a word of no letters", x.fault(2, 3, 2, -1), 0);
        C.quiet("a word of no letters", x, -5, () -> x.fault(2, 3, 2, 0));
        range("p", x, 0, 3, p -> x.fault(p, 1, 0, 0));
        range("q", x, 0, 3, q -> x.fault(0, q, 0, 0));
        range("mode", x, 0, 2, mode -> x.fault(0, 1, mode, 0));
    }

    private static void reason() {
        C.sentence("REASON. BAD; NO: it HOLDS.");
        BesideWalk x = Checks.with(1, "0i0;", 1, "0a0;");
        C.quiet("by 2: LOST", x, 2, () -> x.reason(0, 1, 2));
        C.refused("NO by 1", x, -3, () -> x.reason(0, 1, 1));
        C.refused("NO by 0", x, -3, () -> x.reason(0, 1, 0));
        C.quiet("OFFERS", x, 1, () -> x.reason(1, 0, 1));
        C.quiet("not POSSIBLE", x, 0, () -> x.reason(1, 0, 0));
        for (int mode = 0; mode < 3; mode++) {
            int by = mode;
            C.refused("NO with itself", x, -3, () -> x.reason(0, 0, by));
        }
        C.bad("BAD goes ahead of NO", x, () -> x.reason(0, 0, 3));
        range("p", x, 0, 3, p -> x.reason(p, 2, 2));
        range("q", x, 0, 3, q -> x.reason(2, q, 2));
        range("mode", x, 0, 2, mode -> x.reason(1, 0, mode));
    }

    private static void back() {
        C.sentence("A PAST: how many can be yet. NO: none.");
        BesideWalk x = new BesideWalk();
        C.refused("of a new object", x, -3, x::back);
        x.process(0, 4);
        C.due("one", x.back(), 0);
        C.due("one", x.of(0, 0), 1);
        C.refused("none is left", x, -3, x::back);
        C.refused("nor by going back", x, -3, x::back);
        for (int i = 0; i < 9; i++) {
            x.move(0, 0, i % 5, 0);
            x.unmove(0, 0, i % 5, 0);
        }
        int[] moves = {1, 0, 1, 0, 1};
        for (int left = 4; left >= 0; left--) {
            C.due("of many: five", x.back(), left);
            C.due("of many: five", x.of(0, 1), moves[left]);
            C.due("of many: five", x.told(4), left);
        }
        C.refused("of many: no sixth", x, -3, x::back);
    }

    private static void told() {
        C.sentence("How often refused: BAD (0), NO (1), FULL (2); bytes of THE TEXT (3), PASTS (4). BAD.");
        BesideWalk x = new BesideWalk();
        range("what", x, 0, 4, x::told);
        C.due("BAD: itself", x.told(0), 5);
        x.back();
        C.due("NO", x.told(1), 1);
        Checks.write(x, " ".repeat(100));
        x.type(32);
        x.type(32);
        C.due("FULL", x.told(2), 2);
        C.due("bytes", x.told(3), 100);
        for (int pasts = 1; pasts <= 6; pasts++) {
            x.hides(0, 0);
            C.due("PASTS", x.told(4), Math.min(5, pasts));
        }
        C.quiet("asking changes nothing", x, 5, () -> x.told(4));
    }

    private static void digest() {
        C.sentence("h = 2617; then h = 31 h + v for each v: told(0) to told(4); PROCESS by PROCESS of(0) to of(5),"
            + " leads of each STATE by 0 to 4; of all two unlike PROCESSES p, q (by p, then q) holds by 0, 1, 2,"
            + " alike(p, 0, q, 0)");
        BesideWalk x = new BesideWalk();
        C.due("a new object", x.digest(), PromiseTest.digestByCalls(x));
        C.due("asking changes nothing", x.digest(), PromiseTest.digestByCalls(x));
        BesideWalk full = Checks.with(8, "0a1;1b2;2c3;3d4;4i5;5a6;6b7;7c0;7i7;", 8, "0a1;1b2;2c3;3d4;4i5;5a6;6b7;7c0;");
        Checks.build(full, 2, 3, "0a1;0a2;1b0;");
        Checks.build(full, 3, 1, "0i0;");
        full.back();
        full.move(9, 0, 0, 0);
        full.type(97);
        C.due("of many things", full.digest(), PromiseTest.digestByCalls(full));
        full.back();
        C.due("gone back", full.digest(), PromiseTest.digestByCalls(full));
        BesideWalk y = new BesideWalk();
        BesideWalk z = new BesideWalk();
        C.due("like objects, like digests", y.digest(), z.digest());
        y.told(5);
        C.holds("BAD is in it", y.digest() != z.digest());
        z.told(5);
        y.type(97);
        C.holds("the text's length is in it", y.digest() != z.digest());
        z.type(98);
        C.due("the text's bytes are not", y.digest(), z.digest());
    }
}
