/** Each promise by hand: ordinary inputs, the edges that the document names, wrong inputs. */
public final class PromiseTest {
    private static final Checks C = new Checks("PromiseTest");
    private static final int[] NUMBERS_OUTSIDE = {-1, Integer.MIN_VALUE, Integer.MAX_VALUE};

    public static void main(String[] args) {
        newObject();
        process();
        move();
        unmove();
        hides();
        renames();
        together();
        togetherNumbers();
        togetherFull();
        presses();
        of();
        leads();
        alike();
        typeAndClear();
        moves();
        movesFaults();
        movesTwentyFifth();
        behind();
        behindFaults();
        holdsByPossible();
        holdsByOffers();
        holdsByLost();
        faultWord();
        longFaultWord();
        back();
        told();
        digest();
        C.end();
    }

    private static void newObject() {
        C.due("NONE", BesideWalk.NONE, -1);
        C.due("BAD", BesideWalk.BAD, -2);
        C.due("NO", BesideWalk.NO, -3);
        C.due("FULL", BesideWalk.FULL, -4);
        BesideWalk x = new BesideWalk();
        for (int p = 0; p < 4; p++) {
            C.due("1: states", x.of(p, 0), 1);
            C.due("1: moves", x.of(p, 1), 0);
            C.due("1: silent ones", x.of(p, 2), 0);
            C.due("1: letters", x.of(p, 3), 0);
            C.due("1: stable", x.of(p, 4), 1);
            C.due("1: lost", x.of(p, 5), 0);
            C.due("1: behind no letters", x.behind(p, 0), 1);
        }
        for (int what = 0; what < 5; what++) {
            C.due("1: told " + what, x.told(what), 0);
        }
        C.due("1: no past", x.back(), -3);
    }

    private static void process() {
        BesideWalk x = new BesideWalk();
        C.due("2", x.process(0, 8), 1);
        C.due("2", x.process(0, 3), 8);
        C.due("2", x.of(0, 0), 3);
        C.due("2", x.move(0, 2, 4, 2), 1);
        C.due("2: the same number of states, moves go", x.process(0, 3), 3);
        C.due("2", x.of(0, 1), 0);
        C.due("2", x.leads(0, 2, 4), 0);
        C.due("2: others stay", x.of(1, 0), 1);
        C.due("2: S", x.told(4), 4);
        for (int bad : NUMBERS_OUTSIDE) {
            C.due("2: BAD p", x.process(bad, 3), -2);
            C.due("2: BAD n", x.process(0, bad), -2);
        }
        C.due("2: BAD", x.process(4, 3), -2);
        C.due("2: BAD", x.process(0, 0), -2);
        C.due("2: BAD", x.process(0, 9), -2);
        C.due("2: refused, nothing changes", x.of(0, 0), 3);
        C.due("2: refused, no past", x.told(4), 4);
        C.due("2: counted", x.told(0), 9);
    }

    private static void move() {
        BesideWalk x = new BesideWalk();
        x.process(3, 8);
        C.due("3", x.move(3, 7, 3, 0), 1);
        C.due("3", x.move(3, 7, 4, 0), 2);
        C.due("3", x.leads(3, 7, 3), 1);
        C.due("3: NO", x.move(3, 7, 3, 0), -3);
        C.due("3: S", x.told(4), 3);
        C.due("3: BAD", x.move(4, 0, 0, 0), -2);
        C.due("3: BAD from", x.move(3, 8, 0, 0), -2);
        C.due("3: BAD from, of few states", x.move(0, 1, 0, 0), -2);
        C.due("3: BAD to", x.move(3, 0, 0, 8), -2);
        C.due("3: BAD to, of few states", x.move(0, 0, 0, 1), -2);
        C.due("3: BAD by", x.move(3, 0, 5, 0), -2);
        for (int bad : NUMBERS_OUTSIDE) {
            C.due("3: BAD", x.move(bad, 0, 0, 0), -2);
            C.due("3: BAD", x.move(3, bad, 0, 0), -2);
            C.due("3: BAD", x.move(3, 0, bad, 0), -2);
            C.due("3: BAD", x.move(3, 0, 0, bad), -2);
        }
        for (int i = 0; i < 22; i++) {
            C.due("3: up to 24", x.move(3, i % 8, i / 8, (i + 3) % 8), 3 + i);
        }
        C.due("3: FULL", x.move(3, 6, 0, 6), -4);
        C.due("3: NO comes ahead of FULL", x.move(3, 7, 3, 0), -3);
        C.due("3: BAD comes ahead of FULL", x.move(3, 8, 3, 0), -2);
        C.due("3: refused, all stays", x.of(3, 1), 24);
        C.due("3: told", x.told(0), 19);
        C.due("3: told", x.told(1), 2);
        C.due("3: told", x.told(2), 1);
    }

    private static void unmove() {
        BesideWalk x = new BesideWalk();
        Checks.build(x, 1, 3, "0a1;0a2;0i1;");
        C.due("4", x.unmove(1, 0, 0, 1), 2);
        C.due("4", x.leads(1, 0, 0), 4);
        C.due("4: NO", x.unmove(1, 0, 0, 1), -3);
        C.due("4: NO", x.unmove(0, 0, 0, 0), -3);
        C.due("4", x.unmove(1, 0, 4, 1), 1);
        C.due("4: S", x.told(4), 4);
        C.due("4: BAD", x.unmove(4, 0, 0, 0), -2);
        C.due("4: BAD", x.unmove(1, 3, 0, 0), -2);
        C.due("4: BAD", x.unmove(1, 0, 5, 0), -2);
        C.due("4: BAD", x.unmove(1, 0, 0, 3), -2);
        for (int bad : NUMBERS_OUTSIDE) {
            C.due("4: BAD", x.unmove(bad, 0, 0, 2), -2);
            C.due("4: BAD", x.unmove(1, bad, 0, 2), -2);
            C.due("4: BAD", x.unmove(1, 0, bad, 2), -2);
            C.due("4: BAD", x.unmove(1, 0, 0, bad), -2);
        }
        C.due("4: all stays", x.of(1, 1), 1);
        C.due("4", x.unmove(1, 0, 0, 2), 0);
    }

    private static void hides() {
        BesideWalk x = new BesideWalk();
        Checks.build(x, 0, 3, "0a1;0b1;0c2;1d0;0i1;");
        C.due("5: none", x.hides(0, 0), 5);
        C.due("5: like ones once", x.hides(0, 3), 3);
        C.due("5", x.leads(0, 0, 4), 2);
        C.due("5", x.leads(0, 0, 0), 0);
        C.due("5", x.leads(0, 0, 2), 4);
        C.due("5: all", x.hides(0, 15), 3);
        C.due("5", x.of(0, 2), 3);
        C.due("5", x.of(0, 3), 0);
        C.due("5: S, also if nothing changes", x.told(4), 5);
        C.due("5: BAD", x.hides(0, 16), -2);
        C.due("5: BAD", x.hides(4, 1), -2);
        for (int bad : NUMBERS_OUTSIDE) {
            C.due("5: BAD", x.hides(bad, 1), -2);
            C.due("5: BAD", x.hides(0, bad), -2);
        }
    }

    private static void renames() {
        BesideWalk x = new BesideWalk();
        Checks.build(x, 2, 3, "0a1;0b1;0b2;1a0;2d2;");
        C.due("6: to itself", x.renames(2, 0, 0), 5);
        C.due("6", x.leads(2, 0, 0), 2);
        C.due("6: like ones once", x.renames(2, 0, 1), 4);
        C.due("6", x.leads(2, 0, 1), 6);
        C.due("6", x.leads(2, 1, 1), 1);
        C.due("6", x.leads(2, 0, 0), 0);
        C.due("6", x.renames(2, 3, 0), 4);
        C.due("6", x.leads(2, 2, 0), 4);
        C.due("6: of a letter that is not there", x.renames(2, 2, 3), 4);
        C.due("6: S", x.told(4), 5);
        C.due("6: silent is no letter", x.renames(2, 4, 0), -2);
        C.due("6: silent is no letter", x.renames(2, 0, 4), -2);
        C.due("6: BAD", x.renames(4, 0, 0), -2);
        for (int bad : NUMBERS_OUTSIDE) {
            C.due("6: BAD", x.renames(bad, 0, 1), -2);
            C.due("6: BAD", x.renames(2, bad, 1), -2);
            C.due("6: BAD", x.renames(2, 0, bad), -2);
        }
    }

    private static void together() {
        BesideWalk x = new BesideWalk();
        Checks.build(x, 0, 2, "0a1;1b0;");
        Checks.build(x, 1, 2, "0a1;1c0;");
        C.due("7: by a together", x.together(0, 1, 1, 2), 4);
        C.due("7: (0,0) a (1,1)", x.leads(2, 0, 0), 2);
        C.due("7: (1,1) b (0,1)", x.leads(2, 1, 1), 4);
        C.due("7: (1,1) c (1,0)", x.leads(2, 1, 2), 8);
        C.due("7: (0,1) c (0,0)", x.leads(2, 2, 2), 1);
        C.due("7: (1,0) b (0,0)", x.leads(2, 3, 1), 1);
        C.due("7: moves", x.of(2, 1), 5);
        C.due("7: a letter of the set that only one has", x.together(0, 1, 15, 3), 2);
        C.due("7: r is p", x.together(0, 1, 0, 0), 4);
        C.due("7: r is p: q stays", x.of(1, 0), 2);
        C.due("7: by p alone, then q alone: (0,0) a (1,0), (0,1)", x.leads(0, 0, 0), 6);
        C.due("7: (1,0) b (0,0)", x.leads(0, 1, 1), 1);
        C.due("7: (1,0) a (1,1)", x.leads(0, 1, 0), 8);
        C.due("7: (0,1) c (0,0)", x.leads(0, 2, 2), 1);
        C.due("7: p, q and r are one", x.together(1, 1, 15, 1), 2);
        C.due("7: S", x.told(4), 5);
        C.due("7: BAD", x.together(4, 0, 0, 0), -2);
        C.due("7: BAD", x.together(0, 4, 0, 0), -2);
        C.due("7: BAD", x.together(0, 0, 16, 0), -2);
        C.due("7: BAD", x.together(0, 0, 0, 4), -2);
        for (int bad : NUMBERS_OUTSIDE) {
            C.due("7: BAD", x.together(bad, 1, 0, 0), -2);
            C.due("7: BAD", x.together(1, bad, 0, 0), -2);
            C.due("7: BAD", x.together(1, 1, bad, 0), -2);
            C.due("7: BAD", x.together(1, 1, 0, bad), -2);
        }
        C.due("7: BAD counts", x.told(0), 16);
    }

    private static void togetherNumbers() {
        BesideWalk x = new BesideWalk();
        Checks.build(x, 0, 3, "0a2;0a1;0i2;");
        Checks.build(x, 1, 3, "0a2;0a1;");
        C.due("7: by p's state, then q's, then silently", x.together(0, 1, 1, 2), 6);
        C.due("7: (1,1) (1,2) (2,1) (2,2)", x.leads(2, 0, 0), 2 + 4 + 8 + 16);
        C.due("7: (2,0) is found last", x.leads(2, 0, 4), 32);
        C.due("7: no way on", x.of(2, 1), 5);
        Checks.build(x, 0, 2, "0i1;0d1;");
        Checks.build(x, 1, 2, "0i1;0d1;");
        C.due("7: letters ahead of silent ones", x.together(0, 1, 8, 2), 4);
        C.due("7: (1,1)", x.leads(2, 0, 3), 2);
        C.due("7: silently p (1,0), then q (0,1)", x.leads(2, 0, 4), 12);
        C.due("7: (1,0) silently (1,1)", x.leads(2, 2, 4), 2);
        C.due("7: (0,1) silently (1,1)", x.leads(2, 3, 4), 2);
        Checks.build(x, 0, 1, "0a0;0i0;");
        C.due("7: one state", x.together(0, 0, 0, 3), 1);
        C.due("7: like moves stand once", x.of(3, 1), 2);
    }

    private static void togetherFull() {
        BesideWalk x = new BesideWalk();
        Checks.build(x, 0, 3, "0a1;1a2;2a0;");
        Checks.build(x, 1, 3, "0b1;1b2;2b0;");
        int pasts = x.told(4);
        C.due("7: FULL: nine states", x.together(0, 1, 0, 0), -4);
        C.due("7: FULL: all stays", x.of(0, 0), 3);
        C.due("7: FULL: no past", x.told(4), pasts);
        C.due("7: FULL counts", x.told(2), 1);
        C.due("7: the states that are got to count", x.together(0, 1, 2, 3), 3);
        Checks.build(x, 0, 4, "0a1;1a2;2a3;3a0;0b1;1b2;2b3;3b0;");
        Checks.build(x, 1, 2, "0c1;1c0;");
        C.due("7: eight states, 24 moves", x.together(0, 1, 0, 2), 8);
        C.due("7: 24 moves", x.of(2, 1), 24);
        x.move(1, 0, 2, 0);
        C.due("7: FULL: eight states, 28 moves", x.together(0, 1, 0, 2), -4);
        Checks.build(x, 0, 5, "0a0;0a1;0a2;0a3;0a4;");
        Checks.build(x, 1, 1, "0a0;");
        C.due("7: 5 of one kind", x.together(0, 1, 1, 2), 5);
        Checks.build(x, 3, 2, "0b0;0b1;0c0;0c1;0d0;0d1;0i0;0i1;1b0;1b1;1c0;1c1;1d0;1d1;1i0;1i1;");
        Checks.build(x, 1, 2, "0a0;0a1;1a0;1a1;");
        C.due("7: FULL: 4 states, 64 moves less like ones", x.together(3, 1, 0, 2), -4);
    }

    private static void presses() {
        BesideWalk x = new BesideWalk();
        Checks.build(x, 0, 4, "0a1;0a3;1b0;3b0;2a0;");
        C.due("8: 2 can not be got to, 3 is alike to 1", x.presses(0), 2);
        C.due("8", x.of(0, 1), 2);
        C.due("8", x.leads(0, 0, 0), 2);
        C.due("8", x.leads(0, 1, 1), 1);
        Checks.build(x, 0, 4, "0a3;0b2;3c0;1c0;");
        C.due("8: 1 is alike to 3 but goes first; in their order", x.presses(0), 3);
        C.due("8: 3 becomes 2", x.leads(0, 0, 0), 4);
        C.due("8: 2 becomes 1", x.leads(0, 0, 1), 2);
        C.due("8: moves of 3", x.leads(0, 2, 2), 1);
        C.due("8: moves", x.of(0, 1), 3);
        Checks.build(x, 0, 3, "0i1;1i2;2i0;");
        C.due("8: all alike to 0", x.presses(0), 1);
        C.due("8: silent moves", x.leads(0, 0, 4), 1);
        Checks.build(x, 0, 3, "0a1;0i2;");
        C.due("8: got to by silent moves, alike without moves", x.presses(0), 2);
        C.due("8", x.leads(0, 0, 4), 2);
        Checks.build(x, 0, 8, "");
        C.due("8: none can be got to", x.presses(0), 1);
        int pasts = x.told(4);
        C.due("8: again", x.presses(0), 1);
        C.due("8: S, 5 at most", x.told(4), Math.min(5, pasts + 1));
        C.due("8: BAD", x.presses(4), -2);
        for (int bad : NUMBERS_OUTSIDE) {
            C.due("8: BAD", x.presses(bad), -2);
        }
    }

    private static void of() {
        BesideWalk x = new BesideWalk();
        Checks.build(x, 1, 5, "0i1;1i2;2i1;3i4;0b0;4d4;");
        C.due("9: states", x.of(1, 0), 5);
        C.due("9: moves", x.of(1, 1), 6);
        C.due("9: silent ones", x.of(1, 2), 4);
        C.due("9: letters", x.of(1, 3), 10);
        C.due("9: stable", x.of(1, 4), 16);
        C.due("9: lost", x.of(1, 5), 7);
        x.move(1, 4, 4, 4);
        C.due("9: stable", x.of(1, 4), 0);
        C.due("9: lost by itself", x.of(1, 5), 31);
        C.due("9: BAD", x.of(1, 6), -2);
        C.due("9: BAD", x.of(4, 0), -2);
        for (int bad : NUMBERS_OUTSIDE) {
            C.due("9: BAD", x.of(bad, 0), -2);
            C.due("9: BAD", x.of(0, bad), -2);
        }
        C.due("9: a question, too, counts", x.told(0), 8);
    }

    private static void leads() {
        BesideWalk x = new BesideWalk();
        Checks.build(x, 0, 8, "0a0;0a7;0i3;7d1;7d2;");
        C.due("10", x.leads(0, 0, 0), 129);
        C.due("10", x.leads(0, 0, 4), 8);
        C.due("10", x.leads(0, 7, 3), 6);
        C.due("10: none", x.leads(0, 7, 4), 0);
        C.due("10: BAD", x.leads(0, 8, 0), -2);
        C.due("10: BAD", x.leads(0, 0, 5), -2);
        C.due("10: BAD", x.leads(1, 1, 0), -2);
        C.due("10: BAD", x.leads(4, 0, 0), -2);
        for (int bad : NUMBERS_OUTSIDE) {
            C.due("10: BAD", x.leads(bad, 0, 0), -2);
            C.due("10: BAD", x.leads(0, bad, 0), -2);
            C.due("10: BAD", x.leads(0, 0, bad), -2);
        }
        C.due("10: counted", x.told(0), 13);
    }

    private static void alike() {
        BesideWalk x = new BesideWalk();
        Checks.build(x, 0, 3, "0a1;1a2;2a0;");
        Checks.build(x, 1, 2, "0a0;");
        C.due("11: going round", x.alike(0, 0, 1, 0), 1);
        C.due("11: of one process", x.alike(0, 1, 0, 2), 1);
        C.due("11: without moves", x.alike(0, 0, 1, 1), 0);
        C.due("11: without moves, both", x.alike(1, 1, 2, 0), 1);
        Checks.build(x, 0, 5, "0a1;1b2;1c3;");
        Checks.build(x, 1, 5, "0a1;0a2;1b3;2c4;");
        C.due("11: not only by words", x.alike(0, 0, 1, 0), 0);
        C.due("11: ends are", x.alike(0, 2, 1, 3), 1);
        Checks.build(x, 0, 2, "0i1;1a1;");
        Checks.build(x, 1, 1, "0a0;");
        C.due("11: a silent move is to be matched, too", x.alike(0, 0, 1, 0), 0);
        C.due("11", x.alike(0, 1, 1, 0), 1);
        C.due("11: with itself", x.alike(0, 0, 0, 0), 1);
        C.due("11: BAD", x.alike(0, 2, 1, 0), -2);
        C.due("11: BAD", x.alike(0, 0, 1, 1), -2);
        C.due("11: BAD", x.alike(4, 0, 1, 0), -2);
        C.due("11: BAD", x.alike(0, 0, 4, 0), -2);
        for (int bad : NUMBERS_OUTSIDE) {
            C.due("11: BAD", x.alike(bad, 0, 0, 0), -2);
            C.due("11: BAD", x.alike(0, bad, 0, 0), -2);
            C.due("11: BAD", x.alike(0, 0, bad, 0), -2);
            C.due("11: BAD", x.alike(0, 0, 0, bad), -2);
        }
    }

    private static void typeAndClear() {
        BesideWalk x = new BesideWalk();
        C.due("13: empty", x.clear(), 0);
        C.due("12", x.type(0), 1);
        C.due("12", x.type(127), 2);
        C.due("12: BAD", x.type(128), -2);
        for (int bad : NUMBERS_OUTSIDE) {
            C.due("12: BAD", x.type(bad), -2);
        }
        C.due("12: refused, all stays", x.told(3), 2);
        C.due("13", x.clear(), 2);
        C.due("13", x.told(3), 0);
        for (int i = 1; i <= 100; i++) {
            C.due("12", x.type(32), i);
        }
        C.due("12: FULL", x.type(32), -4);
        C.due("12: BAD ahead of FULL", x.type(128), -2);
        C.due("12: no past", x.told(4), 0);
        C.due("12: told", x.told(2), 1);
        C.due("12: told", x.told(0), 5);
        C.due("13", x.clear(), 100);
        C.due("12: again", x.type(97), 1);
        C.due("13: no past", x.told(4), 0);
    }

    private static void moves() {
        BesideWalk x = new BesideWalk();
        x.process(0, 3);
        Checks.write(x, " 0 a 1 ; 1i2;  ");
        C.due("14", x.moves(0), 2);
        C.due("14: the text stays", x.told(3), 15);
        C.due("14", x.leads(0, 0, 0), 2);
        C.due("14", x.leads(0, 1, 4), 4);
        Checks.write(x, "2d2;");
        C.due("14: how many come", x.moves(0), 1);
        C.due("14: how many there are", x.of(0, 1), 3);
        C.due("14: S", x.told(4), 3);
        C.due("14: BAD", x.moves(4), -2);
        for (int bad : NUMBERS_OUTSIDE) {
            C.due("14: BAD", x.moves(bad), -2);
        }
        C.due("14: by a fault no past", x.moves(0), -10);
        C.due("14: by a fault no past", x.told(4), 3);
        C.due("14: by a fault nothing counts", x.told(0), 4);
        C.due("14: by a fault nothing counts", x.told(1), 0);
        C.due("14: back", x.back(), 2);
        C.due("14: back", x.of(0, 1), 2);
        C.due("14: the text does not go back", x.moves(0), 1);
    }

    private static void movesFaults() {
        String[] texts = {
            "", "   ", "0", "0a", "0a1", "0a1 ", "0a1;1", "3a0;", "0a3;", "0e1;", "0A1;", "0a1,", "0a1;;", ";", "a",
            "0a1;0a1;", "0a1; 0 a1", "0a1;0a", "0a1;0a 9", " 0a11;", "1i1;", "1 i 1", "0j1;", "0`1;", "00", "9a0;",
            "0a2;1i1;", "0a1;\n", "0a1;1b2;2c0;0a2;1b2;", "/a0;", ":a0;", "0i1;0i1;", "0h1;"};
        int[] places = {
            0, 3, 1, 2, 3, 4, 5, 0, 2, 1, 1, 3, 4, 0, 0,
            4, 5, 6, 7, 4, 0, 0, 1, 1, 1, 0,
            4, 4, 16, 0, 0, 4, 1};
        for (int i = 0; i < texts.length; i++) {
            BesideWalk x = new BesideWalk();
            x.process(1, 3);
            x.move(1, 1, 4, 1);
            Checks.write(x, texts[i]);
            C.due("14: FAULT of '" + texts[i] + "'", x.moves(1), -10 - places[i]);
            C.due("14: all stays by '" + texts[i] + "'", x.of(1, 1), 1);
            C.due("14: no past by '" + texts[i] + "'", x.told(4), 2);
            C.due("14: nothing counts by '" + texts[i] + "'", x.told(0) + x.told(1) + x.told(2), 0);
        }
    }

    private static void movesTwentyFifth() {
        BesideWalk x = new BesideWalk();
        x.process(0, 5);
        StringBuilder text = new StringBuilder();
        for (int i = 0; i < 25; i++) {
            text.append((char) ('0' + i / 5)).append('a').append((char) ('0' + i % 5)).append(';');
        }
        Checks.write(x, text.toString());
        C.due("14: 100 bytes", x.told(3), 100);
        C.due("14: a 25th move: its first byte", x.moves(0), -10 - 96);
        C.due("14: all stays", x.of(0, 1), 0);
        Checks.write(x, text.substring(0, 96));
        C.due("14: 24 moves", x.moves(0), 24);
        C.due("14: 24 moves", x.of(0, 1), 24);
        Checks.write(x, "  4b4;");
        C.due("14: a 25th", x.moves(0), -12);
        Checks.write(x, "  4z4;");
        C.due("14: a 25th can not begin", x.moves(0), -12);
        Checks.write(x, "  ");
        C.due("14: too early", x.moves(0), -12);
        C.due("14: not FULL", x.told(2), 0);
    }

    private static void behind() {
        BesideWalk x = new BesideWalk();
        Checks.build(x, 0, 6, "0i1;0a2;1a3;1b1;3i4;4c0;4d0;2b0;5a5;");
        Checks.write(x, "");
        C.due("15: no letters", x.behind(0, 0), 3);
        C.due("15: next", x.behind(0, 1), 3);
        C.due("15: fewest of the stable ones", x.behind(0, 2), 2);
        C.due("15: lost", x.behind(0, 3), 0);
        Checks.write(x, " a ");
        C.due("15: a", x.behind(0, 0), 4 + 8 + 16);
        C.due("15: next", x.behind(0, 1), 2 + 4 + 8);
        C.due("15: fewest", x.behind(0, 2), 1);
        Checks.write(x, "ac");
        C.due("15: ac", x.behind(0, 0), 3);
        Checks.write(x, "cc");
        C.due("15: not possible", x.behind(0, 0), 0);
        C.due("15: not possible", x.behind(0, 1), 0);
        C.due("15: not possible", x.behind(0, 2), -1);
        C.due("15: not possible", x.behind(0, 3), 0);
        x.move(0, 4, 4, 3);
        Checks.write(x, "a");
        C.due("15: lost", x.behind(0, 3), 1);
        C.due("15: fewest: 2 is stable yet", x.behind(0, 2), 1);
        x.unmove(0, 0, 0, 2);
        C.due("15: none is stable", x.behind(0, 2), -1);
        C.due("15: none offers", x.behind(1, 2), -1);
        x.clear();
        C.due("15: stable and offers none", x.behind(1, 2), 0);
        Checks.build(x, 2, 4, "0a1;1i0;0i2;2i3;");
        x.type('a');
        C.due("15: on silently over 0 and 2", x.behind(2, 0), 15);
        x.clear();
        C.due("15: on silently from 0", x.behind(2, 0), 13);
        C.due("15: BAD", x.behind(4, 0), -2);
        C.due("15: BAD", x.behind(0, 4), -2);
        x.type('x');
        for (int bad : NUMBERS_OUTSIDE) {
            C.due("15: BAD ahead of the fault", x.behind(bad, 0), -2);
            C.due("15: BAD ahead of the fault", x.behind(0, bad), -2);
        }
    }

    private static void behindFaults() {
        BesideWalk x = new BesideWalk();
        x.move(0, 0, 0, 0);
        String[] texts = {"e", "ab i", "A", "a;", " \n", "aaaaaaaaaaaaaaaaaaaaa", "aaaaaaaaaaaaaaaaaaaa x", "`"};
        int[] places = {0, 3, 0, 1, 1, 20, 21, 0};
        for (int i = 0; i < texts.length; i++) {
            Checks.write(x, texts[i]);
            C.due("15: FAULT of '" + texts[i] + "'", x.behind(0, i % 4), -10 - places[i]);
        }
        Checks.write(x, "a a a a a a a a a a a a a a a a a a a a ");
        C.due("15: 20 letters", x.behind(0, 0), 1);
        C.due("15: nothing counts", x.told(0) + x.told(1) + x.told(2), 0);
        C.due("15: no past", x.told(4), 1);
    }

    private static void holdsByPossible() {
        BesideWalk x = new BesideWalk();
        Checks.build(x, 0, 2, "0a1;");
        Checks.build(x, 1, 2, "0a1;0b1;");
        C.due("16: less holds", x.holds(0, 1, 0), 1);
        C.due("16: more does not", x.holds(1, 0, 0), 0);
        C.due("17", x.fault(1, 0, 0, -1), 1);
        C.due("17", x.fault(1, 0, 0, 0), 1);
        C.due("18: not possible", x.reason(1, 0, 0), 0);
        C.due("18: NO", x.reason(0, 1, 0), -3);
        C.due("16: with itself", x.holds(1, 1, 2), 1);
        C.due("16: BAD", x.holds(4, 0, 0), -2);
        C.due("16: BAD", x.holds(0, 4, 0), -2);
        C.due("16: BAD", x.holds(0, 0, 3), -2);
        C.due("18: BAD", x.reason(4, 0, 0), -2);
        C.due("18: BAD", x.reason(0, 4, 0), -2);
        C.due("18: BAD", x.reason(1, 0, 3), -2);
        for (int bad : NUMBERS_OUTSIDE) {
            C.due("16: BAD", x.holds(bad, 0, 0), -2);
            C.due("16: BAD", x.holds(0, bad, 0), -2);
            C.due("16: BAD", x.holds(0, 0, bad), -2);
            C.due("18: BAD", x.reason(bad, 0, 0), -2);
            C.due("18: BAD", x.reason(1, bad, 0), -2);
            C.due("18: BAD", x.reason(1, 0, bad), -2);
        }
    }

    private static void holdsByOffers() {
        BesideWalk x = new BesideWalk();
        Checks.build(x, 0, 3, "0i1;0i2;1a0;2b0;");
        Checks.build(x, 1, 1, "0a0;0b0;");
        C.due("16: words", x.holds(0, 1, 0), 1);
        C.due("16: one that chooses by itself does not hold", x.holds(0, 1, 1), 0);
        C.due("18: OFFERS", x.reason(0, 1, 1), 1);
        C.due("17: at once", x.fault(0, 1, 1, -1), 0);
        C.due("16: the other way it holds", x.holds(1, 0, 1), 1);
        C.due("16: and by 2", x.holds(1, 0, 2), 1);
        Checks.build(x, 2, 2, "0a0;0b0;0i1;1i1;");
        C.due("16: without a stable one it holds by 1", x.holds(2, 1, 1), 1);
        C.due("16: none stable in q", x.holds(1, 2, 1), 0);
        C.due("18", x.reason(1, 2, 1), 1);
    }

    private static void holdsByLost() {
        BesideWalk x = new BesideWalk();
        Checks.build(x, 0, 3, "0a1;1i2;2i1;1b0;");
        Checks.build(x, 1, 3, "0a1;1b0;");
        C.due("16: by 1", x.holds(0, 1, 1), 1);
        C.due("16: by 2", x.holds(0, 1, 2), 0);
        C.due("18: LOST", x.reason(0, 1, 2), 2);
        C.due("17", x.fault(0, 1, 2, -1), 1);
        C.due("17", x.fault(0, 1, 2, 0), 0);
        C.due("17", x.fault(0, 1, 2, 1), -5);
        x.move(1, 1, 4, 1);
        C.due("16: now by 2", x.holds(0, 1, 2), 1);
        x.move(0, 0, 2, 0);
        C.due("16: of two reasons at one word the first", x.holds(0, 1, 2), 0);
        C.due("18: offers more", x.reason(0, 1, 2), 0);
        C.due("17", x.fault(0, 1, 2, 0), 2);
        C.due("18: by 0, too", x.reason(0, 1, 0), 0);
        Checks.build(x, 2, 1, "0i0;");
        Checks.build(x, 3, 1, "0a0;");
        C.due("16: lost against a stable one", x.holds(2, 3, 2), 0);
        C.due("16: a stable one against lost", x.holds(3, 2, 1), 0);
        C.due("18", x.reason(3, 2, 1), 1);
        C.due("18: by 0 its word", x.reason(3, 2, 0), 0);
    }

    private static void faultWord() {
        BesideWalk x = new BesideWalk();
        Checks.build(x, 0, 5, "0b1;0a2;1a3;2d4;2c4;");
        Checks.build(x, 1, 3, "0a1;0b2;");
        C.due("17: of like length the first: ac", x.fault(0, 1, 0, -1), 2);
        C.due("17", x.fault(0, 1, 0, 0), 0);
        C.due("17", x.fault(0, 1, 0, 1), 2);
        C.due("17: not so many", x.fault(0, 1, 0, 2), -5);
        C.due("17: not so many", x.fault(0, 1, 0, Integer.MAX_VALUE), -5);
        C.due("17: NO", x.fault(1, 0, 0, 9), -3);
        C.due("17: BAD k ahead of NO", x.fault(1, 0, 0, -2), -2);
        C.due("17: BAD k", x.fault(0, 1, 0, Integer.MIN_VALUE), -2);
        C.due("17: BAD", x.fault(4, 1, 0, 0), -2);
        C.due("17: BAD", x.fault(0, 4, 0, 0), -2);
        C.due("17: BAD", x.fault(0, 1, 3, 0), -2);
        for (int bad : NUMBERS_OUTSIDE) {
            C.due("17: BAD", x.fault(bad, 1, 0, 0), -2);
            C.due("17: BAD", x.fault(0, bad, 0, 0), -2);
            C.due("17: BAD", x.fault(0, 1, bad, 0), -2);
        }
        C.due("17: NO counts, not so many does not", x.told(1), 1);
        C.due("17: BAD counts", x.told(0), 14);
    }

    /** One goes round by 7, the other one by 8: both are at their ends first behind 55 letters. */
    private static void longFaultWord() {
        BesideWalk x = new BesideWalk();
        Checks.build(x, 0, 7, "0a1;1a2;2a3;3a4;4a5;5a6;6a0;6b6;");
        Checks.build(x, 1, 8, "0a1;1a2;2a3;3a4;4a5;5a6;6a7;7a0;0b0;1b1;2b2;3b3;4b4;5b5;6b6;");
        C.due("17: long", x.fault(0, 1, 0, -1), 56);
        C.due("17: long", x.fault(0, 1, 0, 54), 0);
        C.due("17: long", x.fault(0, 1, 0, 55), 1);
        C.due("17: long", x.fault(0, 1, 0, 56), -5);
        C.due("18: long", x.reason(0, 1, 0), 0);
    }

    private static void back() {
        BesideWalk x = new BesideWalk();
        x.process(0, 2);
        x.process(1, 3);
        x.move(0, 0, 0, 1);
        C.due("19", x.holds(0, 2, 0), 0);
        C.due("19", x.back(), 2);
        C.due("19: the move is gone", x.of(0, 1), 0);
        C.due("19: what follows from it, too", x.holds(0, 2, 0), 1);
        C.due("19", x.back(), 1);
        C.due("19", x.of(1, 0), 1);
        C.due("19", x.of(0, 0), 2);
        C.due("19", x.back(), 0);
        C.due("19", x.of(0, 0), 1);
        C.due("19: NO", x.back(), -3);
        C.due("19: counts", x.told(1), 1);
        for (int n = 2; n <= 8; n++) {
            x.process(2, n);
        }
        C.due("19: 5 at most", x.told(4), 5);
        for (int left = 4; left >= 0; left--) {
            C.due("19", x.back(), left);
            C.due("19: the older ones are lost", x.of(2, 0), left + 3);
        }
        C.due("19: NO", x.back(), -3);
        C.due("19: NO, all stays", x.of(2, 0), 3);
        x.type('a');
        x.presses(2);
        C.due("19: from 0 again", x.back(), 0);
        C.due("19: not the text", x.told(3), 1);
        C.due("19: not how often", x.told(1), 2);
    }

    private static void told() {
        BesideWalk x = new BesideWalk();
        C.due("20: BAD", x.told(5), -2);
        for (int bad : NUMBERS_OUTSIDE) {
            C.due("20: BAD", x.told(bad), -2);
        }
        C.due("20: counts itself", x.told(0), 4);
        x.back();
        x.back();
        C.due("20", x.told(1), 2);
        x.type('a');
        C.due("20", x.told(3), 1);
        x.process(0, 1);
        C.due("20", x.told(4), 1);
        C.due("20", x.told(2), 0);
    }

    private static void digest() {
        long h = 2617;
        for (int what = 0; what < 5; what++) {
            h = 31 * h;
        }
        for (int p = 0; p < 4; p++) {
            int[] figures = {1, 0, 0, 0, 1, 0, 0, 0, 0, 0, 0};
            for (int v : figures) {
                h = 31 * h + v;
            }
        }
        for (int i = 0; i < 12 * 4; i++) {
            h = 31 * h + 1;
        }
        BesideWalk x = new BesideWalk();
        C.due("21: of a new object", x.digest(), h);
        C.due("21: changes nothing", x.digest(), h);
        Checks.build(x, 0, 3, "0a1;0i2;2i2;");
        Checks.build(x, 2, 2, "0a1;1b0;");
        x.type(200);
        x.back();
        C.due("21: as the calls answer", x.digest(), digestByCalls(x));
    }

    static long digestByCalls(BesideWalk x) {
        long h = 2617;
        for (int what = 0; what < 5; what++) {
            h = 31 * h + x.told(what);
        }
        for (int p = 0; p < 4; p++) {
            for (int what = 0; what < 6; what++) {
                h = 31 * h + x.of(p, what);
            }
            for (int s = 0; s < x.of(p, 0); s++) {
                for (int by = 0; by < 5; by++) {
                    h = 31 * h + x.leads(p, s, by);
                }
            }
        }
        for (int p = 0; p < 4; p++) {
            for (int q = 0; q < 4; q++) {
                if (p != q) {
                    for (int mode = 0; mode < 3; mode++) {
                        h = 31 * h + x.holds(p, q, mode);
                    }
                    h = 31 * h + x.alike(p, 0, q, 0);
                }
            }
        }
        return h;
    }
}
